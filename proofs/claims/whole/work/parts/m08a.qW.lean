theorem d_W_net_0 : decode (ab_bc mt_W_net) 0 = .ok (.aload_n 2, 1) := by decide +kernel
theorem d_W_net_1 : decode (ab_bc mt_W_net) 1 = .ok (.iconst 0, 1) := by decide +kernel
theorem d_W_net_2 : decode (ab_bc mt_W_net) 2 = .ok (.aload_n 0, 1) := by decide +kernel
theorem d_W_net_3 : decode (ab_bc mt_W_net) 3 = .ok (.iload_n 1, 1) := by decide +kernel
theorem d_W_net_4 : decode (ab_bc mt_W_net) 4 = .ok (.invokevirtual 7, 3) := by decide +kernel
theorem d_W_net_7 : decode (ab_bc mt_W_net) 7 = .ok (.i2l, 1) := by decide +kernel
theorem d_W_net_8 : decode (ab_bc mt_W_net) 8 = .ok (.lastore, 1) := by decide +kernel
theorem d_W_net_9 : decode (ab_bc mt_W_net) 9 = .ok (.goto 6, 3) := by decide +kernel
theorem d_W_net_12 : decode (ab_bc mt_W_net) 12 = .ok (.astore_n 3, 1) := by decide +kernel
theorem d_W_net_13 : decode (ab_bc mt_W_net) 13 = .ok (.iconst 1, 1) := by decide +kernel
theorem d_W_net_14 : decode (ab_bc mt_W_net) 14 = .ok (.ireturn, 1) := by decide +kernel
theorem d_W_net_15 : decode (ab_bc mt_W_net) 15 = .ok (.iconst 0, 1) := by decide +kernel
theorem d_W_net_16 : decode (ab_bc mt_W_net) 16 = .ok (.ireturn, 1) := by decide +kernel
theorem d_W_count_0 : decode (ab_bc mt_W_count) 0 = .ok (.aload_n 2, 1) := by decide +kernel
theorem d_W_count_1 : decode (ab_bc mt_W_count) 1 = .ok (.iconst 0, 1) := by decide +kernel
theorem d_W_count_2 : decode (ab_bc mt_W_count) 2 = .ok (.aload_n 0, 1) := by decide +kernel
theorem d_W_count_3 : decode (ab_bc mt_W_count) 3 = .ok (.iload_n 1, 1) := by decide +kernel
theorem d_W_count_4 : decode (ab_bc mt_W_count) 4 = .ok (.invokevirtual 15, 3) := by decide +kernel
theorem d_W_count_7 : decode (ab_bc mt_W_count) 7 = .ok (.i2l, 1) := by decide +kernel
theorem d_W_count_8 : decode (ab_bc mt_W_count) 8 = .ok (.lastore, 1) := by decide +kernel
theorem d_W_count_9 : decode (ab_bc mt_W_count) 9 = .ok (.goto 6, 3) := by decide +kernel
theorem d_W_count_12 : decode (ab_bc mt_W_count) 12 = .ok (.astore_n 3, 1) := by decide +kernel
theorem d_W_count_13 : decode (ab_bc mt_W_count) 13 = .ok (.iconst 1, 1) := by decide +kernel
theorem d_W_count_14 : decode (ab_bc mt_W_count) 14 = .ok (.ireturn, 1) := by decide +kernel
theorem d_W_count_15 : decode (ab_bc mt_W_count) 15 = .ok (.iconst 0, 1) := by decide +kernel
theorem d_W_count_16 : decode (ab_bc mt_W_count) 16 = .ok (.ireturn, 1) := by decide +kernel
theorem d_W_cable_0 : decode (ab_bc mt_W_cable) 0 = .ok (.aload_n 3, 1) := by decide +kernel
theorem d_W_cable_1 : decode (ab_bc mt_W_cable) 1 = .ok (.iconst 0, 1) := by decide +kernel
theorem d_W_cable_2 : decode (ab_bc mt_W_cable) 2 = .ok (.aload_n 0, 1) := by decide +kernel
theorem d_W_cable_3 : decode (ab_bc mt_W_cable) 3 = .ok (.iload_n 1, 1) := by decide +kernel
theorem d_W_cable_4 : decode (ab_bc mt_W_cable) 4 = .ok (.iload_n 2, 1) := by decide +kernel
theorem d_W_cable_5 : decode (ab_bc mt_W_cable) 5 = .ok (.invokevirtual 20, 3) := by decide +kernel
theorem d_W_cable_8 : decode (ab_bc mt_W_cable) 8 = .ok (.i2l, 1) := by decide +kernel
theorem d_W_cable_9 : decode (ab_bc mt_W_cable) 9 = .ok (.lastore, 1) := by decide +kernel
theorem d_W_cable_10 : decode (ab_bc mt_W_cable) 10 = .ok (.goto 7, 3) := by decide +kernel
theorem d_W_cable_13 : decode (ab_bc mt_W_cable) 13 = .ok (.astore 4, 2) := by decide +kernel
theorem d_W_cable_15 : decode (ab_bc mt_W_cable) 15 = .ok (.iconst 1, 1) := by decide +kernel
theorem d_W_cable_16 : decode (ab_bc mt_W_cable) 16 = .ok (.ireturn, 1) := by decide +kernel
theorem d_W_cable_17 : decode (ab_bc mt_W_cable) 17 = .ok (.iconst 0, 1) := by decide +kernel
theorem d_W_cable_18 : decode (ab_bc mt_W_cable) 18 = .ok (.ireturn, 1) := by decide +kernel
theorem d_W_ring_0 : decode (ab_bc mt_W_ring) 0 = .ok (.aload_n 3, 1) := by decide +kernel
theorem d_W_ring_1 : decode (ab_bc mt_W_ring) 1 = .ok (.iconst 0, 1) := by decide +kernel
theorem d_W_ring_2 : decode (ab_bc mt_W_ring) 2 = .ok (.aload_n 0, 1) := by decide +kernel
theorem d_W_ring_3 : decode (ab_bc mt_W_ring) 3 = .ok (.iload_n 1, 1) := by decide +kernel
theorem d_W_ring_4 : decode (ab_bc mt_W_ring) 4 = .ok (.iload_n 2, 1) := by decide +kernel
theorem d_W_ring_5 : decode (ab_bc mt_W_ring) 5 = .ok (.invokevirtual 24, 3) := by decide +kernel
theorem d_W_ring_8 : decode (ab_bc mt_W_ring) 8 = .ok (.i2l, 1) := by decide +kernel
theorem d_W_ring_9 : decode (ab_bc mt_W_ring) 9 = .ok (.lastore, 1) := by decide +kernel
theorem d_W_ring_10 : decode (ab_bc mt_W_ring) 10 = .ok (.goto 7, 3) := by decide +kernel
theorem d_W_ring_13 : decode (ab_bc mt_W_ring) 13 = .ok (.astore 4, 2) := by decide +kernel
theorem d_W_ring_15 : decode (ab_bc mt_W_ring) 15 = .ok (.iconst 1, 1) := by decide +kernel
theorem d_W_ring_16 : decode (ab_bc mt_W_ring) 16 = .ok (.ireturn, 1) := by decide +kernel
theorem d_W_ring_17 : decode (ab_bc mt_W_ring) 17 = .ok (.iconst 0, 1) := by decide +kernel
theorem d_W_ring_18 : decode (ab_bc mt_W_ring) 18 = .ok (.ireturn, 1) := by decide +kernel
theorem d_W_taken_0 : decode (ab_bc mt_W_taken) 0 = .ok (.aload_n 2, 1) := by decide +kernel
theorem d_W_taken_1 : decode (ab_bc mt_W_taken) 1 = .ok (.iconst 0, 1) := by decide +kernel
theorem d_W_taken_2 : decode (ab_bc mt_W_taken) 2 = .ok (.aload_n 0, 1) := by decide +kernel
theorem d_W_taken_3 : decode (ab_bc mt_W_taken) 3 = .ok (.iload_n 1, 1) := by decide +kernel
theorem d_W_taken_4 : decode (ab_bc mt_W_taken) 4 = .ok (.invokevirtual 27, 3) := by decide +kernel
theorem d_W_taken_7 : decode (ab_bc mt_W_taken) 7 = .ok (.i2l, 1) := by decide +kernel
theorem d_W_taken_8 : decode (ab_bc mt_W_taken) 8 = .ok (.lastore, 1) := by decide +kernel
theorem d_W_taken_9 : decode (ab_bc mt_W_taken) 9 = .ok (.goto 6, 3) := by decide +kernel
theorem d_W_taken_12 : decode (ab_bc mt_W_taken) 12 = .ok (.astore_n 3, 1) := by decide +kernel
theorem d_W_taken_13 : decode (ab_bc mt_W_taken) 13 = .ok (.iconst 1, 1) := by decide +kernel
theorem d_W_taken_14 : decode (ab_bc mt_W_taken) 14 = .ok (.ireturn, 1) := by decide +kernel
theorem d_W_taken_15 : decode (ab_bc mt_W_taken) 15 = .ok (.iconst 0, 1) := by decide +kernel
theorem d_W_taken_16 : decode (ab_bc mt_W_taken) 16 = .ok (.ireturn, 1) := by decide +kernel
theorem d_W_site_0 : decode (ab_bc mt_W_site) 0 = .ok (.aload_n 3, 1) := by decide +kernel
theorem d_W_site_1 : decode (ab_bc mt_W_site) 1 = .ok (.iconst 0, 1) := by decide +kernel
theorem d_W_site_2 : decode (ab_bc mt_W_site) 2 = .ok (.aload_n 0, 1) := by decide +kernel
theorem d_W_site_3 : decode (ab_bc mt_W_site) 3 = .ok (.iload_n 1, 1) := by decide +kernel
theorem d_W_site_4 : decode (ab_bc mt_W_site) 4 = .ok (.iload_n 2, 1) := by decide +kernel
theorem d_W_site_5 : decode (ab_bc mt_W_site) 5 = .ok (.invokevirtual 30, 3) := by decide +kernel
theorem d_W_site_8 : decode (ab_bc mt_W_site) 8 = .ok (.i2l, 1) := by decide +kernel
theorem d_W_site_9 : decode (ab_bc mt_W_site) 9 = .ok (.lastore, 1) := by decide +kernel
theorem d_W_site_10 : decode (ab_bc mt_W_site) 10 = .ok (.goto 7, 3) := by decide +kernel
theorem d_W_site_13 : decode (ab_bc mt_W_site) 13 = .ok (.astore 4, 2) := by decide +kernel
theorem d_W_site_15 : decode (ab_bc mt_W_site) 15 = .ok (.iconst 1, 1) := by decide +kernel
theorem d_W_site_16 : decode (ab_bc mt_W_site) 16 = .ok (.ireturn, 1) := by decide +kernel
theorem d_W_site_17 : decode (ab_bc mt_W_site) 17 = .ok (.iconst 0, 1) := by decide +kernel
theorem d_W_site_18 : decode (ab_bc mt_W_site) 18 = .ok (.ireturn, 1) := by decide +kernel
theorem d_W_way_0 : decode (ab_bc mt_W_way) 0 = .ok (.aload 4, 2) := by decide +kernel
theorem d_W_way_2 : decode (ab_bc mt_W_way) 2 = .ok (.iconst 0, 1) := by decide +kernel
theorem d_W_way_3 : decode (ab_bc mt_W_way) 3 = .ok (.aload_n 0, 1) := by decide +kernel
theorem d_W_way_4 : decode (ab_bc mt_W_way) 4 = .ok (.iload_n 1, 1) := by decide +kernel
theorem d_W_way_5 : decode (ab_bc mt_W_way) 5 = .ok (.iload_n 2, 1) := by decide +kernel
theorem d_W_way_6 : decode (ab_bc mt_W_way) 6 = .ok (.iload_n 3, 1) := by decide +kernel
theorem d_W_way_7 : decode (ab_bc mt_W_way) 7 = .ok (.invokevirtual 33, 3) := by decide +kernel
theorem d_W_way_10 : decode (ab_bc mt_W_way) 10 = .ok (.i2l, 1) := by decide +kernel
theorem d_W_way_11 : decode (ab_bc mt_W_way) 11 = .ok (.lastore, 1) := by decide +kernel
theorem d_W_way_12 : decode (ab_bc mt_W_way) 12 = .ok (.goto 7, 3) := by decide +kernel
theorem d_W_way_15 : decode (ab_bc mt_W_way) 15 = .ok (.astore 5, 2) := by decide +kernel
theorem d_W_way_17 : decode (ab_bc mt_W_way) 17 = .ok (.iconst 1, 1) := by decide +kernel
theorem d_W_way_18 : decode (ab_bc mt_W_way) 18 = .ok (.ireturn, 1) := by decide +kernel
theorem d_W_way_19 : decode (ab_bc mt_W_way) 19 = .ok (.iconst 0, 1) := by decide +kernel
theorem d_W_way_20 : decode (ab_bc mt_W_way) 20 = .ok (.ireturn, 1) := by decide +kernel
theorem d_W_firm_0 : decode (ab_bc mt_W_firm) 0 = .ok (.aload_n 3, 1) := by decide +kernel
theorem d_W_firm_1 : decode (ab_bc mt_W_firm) 1 = .ok (.iconst 0, 1) := by decide +kernel
theorem d_W_firm_2 : decode (ab_bc mt_W_firm) 2 = .ok (.aload_n 0, 1) := by decide +kernel
theorem d_W_firm_3 : decode (ab_bc mt_W_firm) 3 = .ok (.iload_n 1, 1) := by decide +kernel
theorem d_W_firm_4 : decode (ab_bc mt_W_firm) 4 = .ok (.iload_n 2, 1) := by decide +kernel
theorem d_W_firm_5 : decode (ab_bc mt_W_firm) 5 = .ok (.invokevirtual 37, 3) := by decide +kernel
theorem d_W_firm_8 : decode (ab_bc mt_W_firm) 8 = .ok (.i2l, 1) := by decide +kernel
theorem d_W_firm_9 : decode (ab_bc mt_W_firm) 9 = .ok (.lastore, 1) := by decide +kernel
theorem d_W_firm_10 : decode (ab_bc mt_W_firm) 10 = .ok (.goto 7, 3) := by decide +kernel
theorem d_W_firm_13 : decode (ab_bc mt_W_firm) 13 = .ok (.astore 4, 2) := by decide +kernel
theorem d_W_firm_15 : decode (ab_bc mt_W_firm) 15 = .ok (.iconst 1, 1) := by decide +kernel
theorem d_W_firm_16 : decode (ab_bc mt_W_firm) 16 = .ok (.ireturn, 1) := by decide +kernel
theorem d_W_firm_17 : decode (ab_bc mt_W_firm) 17 = .ok (.iconst 0, 1) := by decide +kernel
theorem d_W_firm_18 : decode (ab_bc mt_W_firm) 18 = .ok (.ireturn, 1) := by decide +kernel
theorem d_W_share_0 : decode (ab_bc mt_W_share) 0 = .ok (.aload_n 2, 1) := by decide +kernel
theorem d_W_share_1 : decode (ab_bc mt_W_share) 1 = .ok (.iconst 0, 1) := by decide +kernel
theorem d_W_share_2 : decode (ab_bc mt_W_share) 2 = .ok (.aload_n 0, 1) := by decide +kernel
theorem d_W_share_3 : decode (ab_bc mt_W_share) 3 = .ok (.iload_n 1, 1) := by decide +kernel
theorem d_W_share_4 : decode (ab_bc mt_W_share) 4 = .ok (.invokevirtual 40, 3) := by decide +kernel
theorem d_W_share_7 : decode (ab_bc mt_W_share) 7 = .ok (.i2l, 1) := by decide +kernel
theorem d_W_share_8 : decode (ab_bc mt_W_share) 8 = .ok (.lastore, 1) := by decide +kernel
theorem d_W_share_9 : decode (ab_bc mt_W_share) 9 = .ok (.goto 6, 3) := by decide +kernel
theorem d_W_share_12 : decode (ab_bc mt_W_share) 12 = .ok (.astore_n 3, 1) := by decide +kernel
theorem d_W_share_13 : decode (ab_bc mt_W_share) 13 = .ok (.iconst 1, 1) := by decide +kernel
theorem d_W_share_14 : decode (ab_bc mt_W_share) 14 = .ok (.ireturn, 1) := by decide +kernel
theorem d_W_share_15 : decode (ab_bc mt_W_share) 15 = .ok (.iconst 0, 1) := by decide +kernel
theorem d_W_share_16 : decode (ab_bc mt_W_share) 16 = .ok (.ireturn, 1) := by decide +kernel
theorem d_W_group_0 : decode (ab_bc mt_W_group) 0 = .ok (.aload_n 3, 1) := by decide +kernel
theorem d_W_group_1 : decode (ab_bc mt_W_group) 1 = .ok (.iconst 0, 1) := by decide +kernel
theorem d_W_group_2 : decode (ab_bc mt_W_group) 2 = .ok (.aload_n 0, 1) := by decide +kernel
theorem d_W_group_3 : decode (ab_bc mt_W_group) 3 = .ok (.iload_n 1, 1) := by decide +kernel
theorem d_W_group_4 : decode (ab_bc mt_W_group) 4 = .ok (.iload_n 2, 1) := by decide +kernel
theorem d_W_group_5 : decode (ab_bc mt_W_group) 5 = .ok (.invokevirtual 43, 3) := by decide +kernel
theorem d_W_group_8 : decode (ab_bc mt_W_group) 8 = .ok (.i2l, 1) := by decide +kernel
theorem d_W_group_9 : decode (ab_bc mt_W_group) 9 = .ok (.lastore, 1) := by decide +kernel
theorem d_W_group_10 : decode (ab_bc mt_W_group) 10 = .ok (.goto 11, 3) := by decide +kernel
theorem d_W_group_13 : decode (ab_bc mt_W_group) 13 = .ok (.astore 4, 2) := by decide +kernel
theorem d_W_group_15 : decode (ab_bc mt_W_group) 15 = .ok (.iconst 1, 1) := by decide +kernel
theorem d_W_group_16 : decode (ab_bc mt_W_group) 16 = .ok (.ireturn, 1) := by decide +kernel
theorem d_W_group_17 : decode (ab_bc mt_W_group) 17 = .ok (.astore 4, 2) := by decide +kernel
theorem d_W_group_19 : decode (ab_bc mt_W_group) 19 = .ok (.iconst 2, 1) := by decide +kernel
theorem d_W_group_20 : decode (ab_bc mt_W_group) 20 = .ok (.ireturn, 1) := by decide +kernel
theorem d_W_group_21 : decode (ab_bc mt_W_group) 21 = .ok (.iconst 0, 1) := by decide +kernel
theorem d_W_group_22 : decode (ab_bc mt_W_group) 22 = .ok (.ireturn, 1) := by decide +kernel
theorem d_W_without_0 : decode (ab_bc mt_W_without) 0 = .ok (.aload_n 3, 1) := by decide +kernel
theorem d_W_without_1 : decode (ab_bc mt_W_without) 1 = .ok (.iconst 0, 1) := by decide +kernel
theorem d_W_without_2 : decode (ab_bc mt_W_without) 2 = .ok (.aload_n 0, 1) := by decide +kernel
theorem d_W_without_3 : decode (ab_bc mt_W_without) 3 = .ok (.iload_n 1, 1) := by decide +kernel
theorem d_W_without_4 : decode (ab_bc mt_W_without) 4 = .ok (.iload_n 2, 1) := by decide +kernel
theorem d_W_without_5 : decode (ab_bc mt_W_without) 5 = .ok (.invokevirtual 46, 3) := by decide +kernel
theorem d_W_without_8 : decode (ab_bc mt_W_without) 8 = .ok (.i2l, 1) := by decide +kernel
theorem d_W_without_9 : decode (ab_bc mt_W_without) 9 = .ok (.lastore, 1) := by decide +kernel
theorem d_W_without_10 : decode (ab_bc mt_W_without) 10 = .ok (.goto 7, 3) := by decide +kernel
theorem d_W_without_13 : decode (ab_bc mt_W_without) 13 = .ok (.astore 4, 2) := by decide +kernel
theorem d_W_without_15 : decode (ab_bc mt_W_without) 15 = .ok (.iconst 1, 1) := by decide +kernel
theorem d_W_without_16 : decode (ab_bc mt_W_without) 16 = .ok (.ireturn, 1) := by decide +kernel
theorem d_W_without_17 : decode (ab_bc mt_W_without) 17 = .ok (.iconst 0, 1) := by decide +kernel
theorem d_W_without_18 : decode (ab_bc mt_W_without) 18 = .ok (.ireturn, 1) := by decide +kernel
theorem d_W_told_0 : decode (ab_bc mt_W_told) 0 = .ok (.aload_n 2, 1) := by decide +kernel
theorem d_W_told_1 : decode (ab_bc mt_W_told) 1 = .ok (.iconst 0, 1) := by decide +kernel
theorem d_W_told_2 : decode (ab_bc mt_W_told) 2 = .ok (.aload_n 0, 1) := by decide +kernel
theorem d_W_told_3 : decode (ab_bc mt_W_told) 3 = .ok (.iload_n 1, 1) := by decide +kernel
theorem d_W_told_4 : decode (ab_bc mt_W_told) 4 = .ok (.invokevirtual 49, 3) := by decide +kernel
theorem d_W_told_7 : decode (ab_bc mt_W_told) 7 = .ok (.i2l, 1) := by decide +kernel
theorem d_W_told_8 : decode (ab_bc mt_W_told) 8 = .ok (.lastore, 1) := by decide +kernel
theorem d_W_told_9 : decode (ab_bc mt_W_told) 9 = .ok (.goto 6, 3) := by decide +kernel
theorem d_W_told_12 : decode (ab_bc mt_W_told) 12 = .ok (.astore_n 3, 1) := by decide +kernel
theorem d_W_told_13 : decode (ab_bc mt_W_told) 13 = .ok (.iconst 1, 1) := by decide +kernel
theorem d_W_told_14 : decode (ab_bc mt_W_told) 14 = .ok (.ireturn, 1) := by decide +kernel
theorem d_W_told_15 : decode (ab_bc mt_W_told) 15 = .ok (.iconst 0, 1) := by decide +kernel
theorem d_W_told_16 : decode (ab_bc mt_W_told) 16 = .ok (.ireturn, 1) := by decide +kernel
theorem d_W_joined_0 : decode (ab_bc mt_W_joined) 0 = .ok (.aload_n 2, 1) := by decide +kernel
theorem d_W_joined_1 : decode (ab_bc mt_W_joined) 1 = .ok (.iconst 0, 1) := by decide +kernel
theorem d_W_joined_2 : decode (ab_bc mt_W_joined) 2 = .ok (.aload_n 0, 1) := by decide +kernel
theorem d_W_joined_3 : decode (ab_bc mt_W_joined) 3 = .ok (.iload_n 1, 1) := by decide +kernel
theorem d_W_joined_4 : decode (ab_bc mt_W_joined) 4 = .ok (.invokevirtual 52, 3) := by decide +kernel
theorem d_W_joined_7 : decode (ab_bc mt_W_joined) 7 = .ok (.i2l, 1) := by decide +kernel
theorem d_W_joined_8 : decode (ab_bc mt_W_joined) 8 = .ok (.lastore, 1) := by decide +kernel
theorem d_W_joined_9 : decode (ab_bc mt_W_joined) 9 = .ok (.goto 6, 3) := by decide +kernel
theorem d_W_joined_12 : decode (ab_bc mt_W_joined) 12 = .ok (.astore_n 3, 1) := by decide +kernel
theorem d_W_joined_13 : decode (ab_bc mt_W_joined) 13 = .ok (.iconst 1, 1) := by decide +kernel
theorem d_W_joined_14 : decode (ab_bc mt_W_joined) 14 = .ok (.ireturn, 1) := by decide +kernel
theorem d_W_joined_15 : decode (ab_bc mt_W_joined) 15 = .ok (.iconst 0, 1) := by decide +kernel
theorem d_W_joined_16 : decode (ab_bc mt_W_joined) 16 = .ok (.ireturn, 1) := by decide +kernel
theorem d_W_swap_0 : decode (ab_bc mt_W_swap) 0 = .ok (.aload_n 3, 1) := by decide +kernel
theorem d_W_swap_1 : decode (ab_bc mt_W_swap) 1 = .ok (.iconst 0, 1) := by decide +kernel
theorem d_W_swap_2 : decode (ab_bc mt_W_swap) 2 = .ok (.aload_n 0, 1) := by decide +kernel
theorem d_W_swap_3 : decode (ab_bc mt_W_swap) 3 = .ok (.iload_n 1, 1) := by decide +kernel
theorem d_W_swap_4 : decode (ab_bc mt_W_swap) 4 = .ok (.iload_n 2, 1) := by decide +kernel
theorem d_W_swap_5 : decode (ab_bc mt_W_swap) 5 = .ok (.invokevirtual 55, 3) := by decide +kernel
theorem d_W_swap_8 : decode (ab_bc mt_W_swap) 8 = .ok (.i2l, 1) := by decide +kernel
theorem d_W_swap_9 : decode (ab_bc mt_W_swap) 9 = .ok (.lastore, 1) := by decide +kernel
theorem d_W_swap_10 : decode (ab_bc mt_W_swap) 10 = .ok (.goto 7, 3) := by decide +kernel
theorem d_W_swap_13 : decode (ab_bc mt_W_swap) 13 = .ok (.astore 4, 2) := by decide +kernel
theorem d_W_swap_15 : decode (ab_bc mt_W_swap) 15 = .ok (.iconst 1, 1) := by decide +kernel
theorem d_W_swap_16 : decode (ab_bc mt_W_swap) 16 = .ok (.ireturn, 1) := by decide +kernel
theorem d_W_swap_17 : decode (ab_bc mt_W_swap) 17 = .ok (.iconst 0, 1) := by decide +kernel
theorem d_W_swap_18 : decode (ab_bc mt_W_swap) 18 = .ok (.ireturn, 1) := by decide +kernel
theorem d_W_fits_0 : decode (ab_bc mt_W_fits) 0 = .ok (.aload_n 3, 1) := by decide +kernel
theorem d_W_fits_1 : decode (ab_bc mt_W_fits) 1 = .ok (.iconst 0, 1) := by decide +kernel
theorem d_W_fits_2 : decode (ab_bc mt_W_fits) 2 = .ok (.aload_n 0, 1) := by decide +kernel
theorem d_W_fits_3 : decode (ab_bc mt_W_fits) 3 = .ok (.iload_n 1, 1) := by decide +kernel
theorem d_W_fits_4 : decode (ab_bc mt_W_fits) 4 = .ok (.iload_n 2, 1) := by decide +kernel
theorem d_W_fits_5 : decode (ab_bc mt_W_fits) 5 = .ok (.invokevirtual 58, 3) := by decide +kernel
theorem d_W_fits_8 : decode (ab_bc mt_W_fits) 8 = .ok (.i2l, 1) := by decide +kernel
theorem d_W_fits_9 : decode (ab_bc mt_W_fits) 9 = .ok (.lastore, 1) := by decide +kernel
theorem d_W_fits_10 : decode (ab_bc mt_W_fits) 10 = .ok (.goto 11, 3) := by decide +kernel
theorem d_W_fits_13 : decode (ab_bc mt_W_fits) 13 = .ok (.astore 4, 2) := by decide +kernel
theorem d_W_fits_15 : decode (ab_bc mt_W_fits) 15 = .ok (.iconst 1, 1) := by decide +kernel
theorem d_W_fits_16 : decode (ab_bc mt_W_fits) 16 = .ok (.ireturn, 1) := by decide +kernel
theorem d_W_fits_17 : decode (ab_bc mt_W_fits) 17 = .ok (.astore 4, 2) := by decide +kernel
theorem d_W_fits_19 : decode (ab_bc mt_W_fits) 19 = .ok (.iconst 2, 1) := by decide +kernel
theorem d_W_fits_20 : decode (ab_bc mt_W_fits) 20 = .ok (.ireturn, 1) := by decide +kernel
theorem d_W_fits_21 : decode (ab_bc mt_W_fits) 21 = .ok (.iconst 0, 1) := by decide +kernel
theorem d_W_fits_22 : decode (ab_bc mt_W_fits) 22 = .ok (.ireturn, 1) := by decide +kernel
theorem d_W_look_0 : decode (ab_bc mt_W_look) 0 = .ok (.aload_n 2, 1) := by decide +kernel
theorem d_W_look_1 : decode (ab_bc mt_W_look) 1 = .ok (.iconst 0, 1) := by decide +kernel
theorem d_W_look_2 : decode (ab_bc mt_W_look) 2 = .ok (.aload_n 0, 1) := by decide +kernel
theorem d_W_look_3 : decode (ab_bc mt_W_look) 3 = .ok (.iload_n 1, 1) := by decide +kernel
theorem d_W_look_4 : decode (ab_bc mt_W_look) 4 = .ok (.invokevirtual 63, 3) := by decide +kernel
theorem d_W_look_7 : decode (ab_bc mt_W_look) 7 = .ok (.i2l, 1) := by decide +kernel
theorem d_W_look_8 : decode (ab_bc mt_W_look) 8 = .ok (.lastore, 1) := by decide +kernel
theorem d_W_look_9 : decode (ab_bc mt_W_look) 9 = .ok (.goto 9, 3) := by decide +kernel
theorem d_W_look_12 : decode (ab_bc mt_W_look) 12 = .ok (.astore_n 3, 1) := by decide +kernel
theorem d_W_look_13 : decode (ab_bc mt_W_look) 13 = .ok (.iconst 1, 1) := by decide +kernel
theorem d_W_look_14 : decode (ab_bc mt_W_look) 14 = .ok (.ireturn, 1) := by decide +kernel
theorem d_W_look_15 : decode (ab_bc mt_W_look) 15 = .ok (.astore_n 3, 1) := by decide +kernel
theorem d_W_look_16 : decode (ab_bc mt_W_look) 16 = .ok (.iconst 2, 1) := by decide +kernel
theorem d_W_look_17 : decode (ab_bc mt_W_look) 17 = .ok (.ireturn, 1) := by decide +kernel
theorem d_W_look_18 : decode (ab_bc mt_W_look) 18 = .ok (.iconst 0, 1) := by decide +kernel
theorem d_W_look_19 : decode (ab_bc mt_W_look) 19 = .ok (.ireturn, 1) := by decide +kernel
theorem d_W_years_0 : decode (ab_bc mt_W_years) 0 = .ok (.aload 4, 2) := by decide +kernel
theorem d_W_years_2 : decode (ab_bc mt_W_years) 2 = .ok (.iconst 0, 1) := by decide +kernel
theorem d_W_years_3 : decode (ab_bc mt_W_years) 3 = .ok (.aload_n 0, 1) := by decide +kernel
theorem d_W_years_4 : decode (ab_bc mt_W_years) 4 = .ok (.iload_n 1, 1) := by decide +kernel
theorem d_W_years_5 : decode (ab_bc mt_W_years) 5 = .ok (.iload_n 2, 1) := by decide +kernel
theorem d_W_years_6 : decode (ab_bc mt_W_years) 6 = .ok (.iload_n 3, 1) := by decide +kernel
theorem d_W_years_7 : decode (ab_bc mt_W_years) 7 = .ok (.invokevirtual 66, 3) := by decide +kernel
theorem d_W_years_10 : decode (ab_bc mt_W_years) 10 = .ok (.i2l, 1) := by decide +kernel
theorem d_W_years_11 : decode (ab_bc mt_W_years) 11 = .ok (.lastore, 1) := by decide +kernel
theorem d_W_years_12 : decode (ab_bc mt_W_years) 12 = .ok (.goto 11, 3) := by decide +kernel
theorem d_W_years_15 : decode (ab_bc mt_W_years) 15 = .ok (.astore 5, 2) := by decide +kernel
theorem d_W_years_17 : decode (ab_bc mt_W_years) 17 = .ok (.iconst 1, 1) := by decide +kernel
theorem d_W_years_18 : decode (ab_bc mt_W_years) 18 = .ok (.ireturn, 1) := by decide +kernel
theorem d_W_years_19 : decode (ab_bc mt_W_years) 19 = .ok (.astore 5, 2) := by decide +kernel
theorem d_W_years_21 : decode (ab_bc mt_W_years) 21 = .ok (.iconst 2, 1) := by decide +kernel
theorem d_W_years_22 : decode (ab_bc mt_W_years) 22 = .ok (.ireturn, 1) := by decide +kernel
theorem d_W_years_23 : decode (ab_bc mt_W_years) 23 = .ok (.iconst 0, 1) := by decide +kernel
theorem d_W_years_24 : decode (ab_bc mt_W_years) 24 = .ok (.ireturn, 1) := by decide +kernel
theorem q_W_net_0 {w : ab_Wd} {d n nc ns : Nat} {I : Nat → Nat → Int32} {L : Nat → Nat → Int64} {res : ab_Re} (v1 : Int32) (hc : nc ≤ res.2.2.2.2.2.1) (hs : ns ≤ res.2.2.2.2.2.2)
    (h : ((∃ (r1 : Int32) (I2 : Nat → Nat → Int32) (L3 : Nat → Nat → Int64) (n4 : Nat), (ab_C w d mt_K_net [.ref kx, .int v1] (I, L, ab_RR, n, nc, ns) (.inl (some (.int r1)), (I2, L3, ab_RR, n4, (nc + 1), (ns + 9))) ∧ nc + 1 ≤ res.2.2.2.2.2.1 ∧ ns + 9 ≤ res.2.2.2.2.2.2) ∧ (res = (.inl (some (.int 0)), (I2, (ab_upL L3 ox_out 0 (Int32.toInt64 r1)), ab_RR, n, (nc + 1), (ns + 9))))) ∨ (ab_C w d mt_K_net [.ref kx, .int v1] (I, L, ab_RR, n, nc, ns) (.inr "java/lang/IllegalArgumentException", (I, L, ab_RR, n, nc + 1, ns + 6)) ∧ (nc + 1 ≤ res.2.2.2.2.2.1 ∧ ns + 6 ≤ res.2.2.2.2.2.2) ∧ (res = (.inl (some (.int 1)), (I, L, ab_RR, n + 1, nc + 1, ns + 6)))))) : ab_E w (d + 1) mt_W_net 0 [.ref kx, .int v1, .ref ox_out, .null] [] (I, L, ab_RR, n, nc, ns) res := by
  refine ab_aload_n (i := 2) d_W_net_0 rfl rfl ?_
  refine ab_iconst (v := 0) d_W_net_1 rfl ?_
  refine ab_aload_n (i := 0) d_W_net_2 rfl rfl ?_
  refine ab_iload_n (i := 1) d_W_net_3 rfl rfl ?_
  rcases h with ⟨r1, I2, L3, n4, ⟨hC, l1, l2⟩, h⟩ | ⟨hC, ⟨l1, l2⟩, h⟩
  · refine ab_callV (me2 := mt_K_net) (b := kx) (as := [.int v1]) (st := [.int 0, .ref ox_out]) (rv := (some (.int r1))) (M2 := (I2, L3, ab_RR, n4, (nc + 1), (ns + 9))) d_W_net_4 ce_K_net v_694 v_695 v_696 (by decide) rfl (Nat.le_of_ble_eq_true rfl) hC (Nat.le_succ _) (Nat.le_add_right _ _) l1 l2 (fun j h9 => by cases h9) (fun _ _ => rfl) ?_
    show ab_E w (d + 1) mt_W_net 7 [.ref kx, .int v1, .ref ox_out, .null] [.int r1, .int 0, .ref ox_out] (I2, L3, ab_RR, n, (nc + 1), (ns + 9)) res
    refine ab_i2l d_W_net_7 ?_
    refine ab_last d_W_net_8 rfl rfl (by unfold vp_in; decide) ?_
    refine ab_goto (tgt := 15) d_W_net_9 (by decide) ?_
    refine ab_iconst (v := 0) d_W_net_15 rfl ?_
    exact ab_iret (ty := .int) d_W_net_16 rfl rfl h
  · refine ab_callVC (me2 := mt_K_net) (b := kx) (as := [.int v1]) (st := [.int 0, .ref ox_out]) (M2 := (I, L, ab_RR, n, nc + 1, ns + 6)) (E := "java/lang/IllegalArgumentException") (hpc := 12) (i := ab_id n 36 0) ⟨[], _, _, _, rfl, (fun z hz => by cases hz), by decide +kernel, by decide, v_693, u_700, rfl⟩ (ab_id_bl (by decide) (by decide)) (by rw [ab_id_cd (by decide)]; decide) d_W_net_4 ce_K_net v_694 v_695 v_696 (by decide) rfl (Nat.le_of_ble_eq_true rfl) hC (Nat.le_succ _) (Nat.le_add_right _ _) l1 l2 (fun _ _ => rfl) ?_
    show ab_E w (d + 1) mt_W_net 12 [.ref kx, .int v1, .ref ox_out, .null] [.ref (ab_id n 36 0)] (I, L, ab_RR, n + 1, nc + 1, ns + 6) res
    refine ab_astore_n (i := 3) d_W_net_12 rfl (by decide) (Or.inr rfl) ?_
    refine ab_iconst (v := 1) d_W_net_13 rfl ?_
    exact ab_iret (ty := .int) d_W_net_14 rfl rfl h
theorem q_W_count_0 {w : ab_Wd} {d n nc ns : Nat} {I : Nat → Nat → Int32} {L : Nat → Nat → Int64} {res : ab_Re} (v1 : Int32) (hc : nc ≤ res.2.2.2.2.2.1) (hs : ns ≤ res.2.2.2.2.2.2)
    (h : ((∃ (r1 : Int32) (I2 : Nat → Nat → Int32), ab_C w d mt_K_count [.ref kx, .int v1] (I, L, ab_RR, n, nc, ns) (.inl (some (.int r1)), (I2, L, ab_RR, n, nc, ns)) ∧ (res = (.inl (some (.int 0)), (I2, (ab_upL L ox_out 0 (Int32.toInt64 r1)), ab_RR, n, nc, ns)))) ∨ (ab_C w d mt_K_count [.ref kx, .int v1] (I, L, ab_RR, n, nc, ns) (.inr "java/util/NoSuchElementException", (I, L, ab_RR, n, nc + 1, ns + 6)) ∧ (nc + 1 ≤ res.2.2.2.2.2.1 ∧ ns + 6 ≤ res.2.2.2.2.2.2) ∧ (res = (.inl (some (.int 1)), (I, L, ab_RR, n + 1, nc + 1, ns + 6)))))) : ab_E w (d + 1) mt_W_count 0 [.ref kx, .int v1, .ref ox_out, .null] [] (I, L, ab_RR, n, nc, ns) res := by
  refine ab_aload_n (i := 2) d_W_count_0 rfl rfl ?_
  refine ab_iconst (v := 0) d_W_count_1 rfl ?_
  refine ab_aload_n (i := 0) d_W_count_2 rfl rfl ?_
  refine ab_iload_n (i := 1) d_W_count_3 rfl rfl ?_
  rcases h with ⟨r1, I2, hC, h⟩ | ⟨hC, ⟨l1, l2⟩, h⟩
  · refine ab_callV (me2 := mt_K_count) (b := kx) (as := [.int v1]) (st := [.int 0, .ref ox_out]) (rv := (some (.int r1))) (M2 := (I2, L, ab_RR, n, nc, ns)) d_W_count_4 ce_K_count v_923 v_924 v_925 (by decide) rfl (Nat.le_of_ble_eq_true rfl) hC (Nat.le_refl _) (Nat.le_refl _) hc hs (fun j h9 => by cases h9) (fun _ _ => rfl) ?_
    show ab_E w (d + 1) mt_W_count 7 [.ref kx, .int v1, .ref ox_out, .null] [.int r1, .int 0, .ref ox_out] (I2, L, ab_RR, n, nc, ns) res
    refine ab_i2l d_W_count_7 ?_
    refine ab_last d_W_count_8 rfl rfl (by unfold vp_in; decide) ?_
    refine ab_goto (tgt := 15) d_W_count_9 (by decide) ?_
    refine ab_iconst (v := 0) d_W_count_15 rfl ?_
    exact ab_iret (ty := .int) d_W_count_16 rfl rfl h
  · refine ab_callVC (me2 := mt_K_count) (b := kx) (as := [.int v1]) (st := [.int 0, .ref ox_out]) (M2 := (I, L, ab_RR, n, nc + 1, ns + 6)) (E := "java/util/NoSuchElementException") (hpc := 12) (i := ab_id n 36 0) ⟨[], _, _, _, rfl, (fun z hz => by cases hz), by decide +kernel, by decide, v_922, u_1051, rfl⟩ (ab_id_bl (by decide) (by decide)) (by rw [ab_id_cd (by decide)]; decide) d_W_count_4 ce_K_count v_923 v_924 v_925 (by decide) rfl (Nat.le_of_ble_eq_true rfl) hC (Nat.le_succ _) (Nat.le_add_right _ _) l1 l2 (fun _ _ => rfl) ?_
    show ab_E w (d + 1) mt_W_count 12 [.ref kx, .int v1, .ref ox_out, .null] [.ref (ab_id n 36 0)] (I, L, ab_RR, n + 1, nc + 1, ns + 6) res
    refine ab_astore_n (i := 3) d_W_count_12 rfl (by decide) (Or.inr rfl) ?_
    refine ab_iconst (v := 1) d_W_count_13 rfl ?_
    exact ab_iret (ty := .int) d_W_count_14 rfl rfl h
theorem q_W_cable_0 {w : ab_Wd} {d n nc ns : Nat} {I : Nat → Nat → Int32} {L : Nat → Nat → Int64} {res : ab_Re} (v1 : Int32) (v2 : Int32) (hc : nc ≤ res.2.2.2.2.2.1) (hs : ns ≤ res.2.2.2.2.2.2)
    (h : ((∃ (r1 : Int32), ab_C w d mt_K_cable [.ref kx, .int v1, .int v2] (I, L, ab_RR, n, nc, ns) (.inl (some (.int r1)), (I, L, ab_RR, n, nc, ns)) ∧ (res = (.inl (some (.int 0)), (I, (ab_upL L ox_out 0 (Int32.toInt64 r1)), ab_RR, n, nc, ns)))) ∨ (ab_C w d mt_K_cable [.ref kx, .int v1, .int v2] (I, L, ab_RR, n, nc, ns) (.inr "java/util/NoSuchElementException", (I, L, ab_RR, n, nc + 1, ns + 6)) ∧ (nc + 1 ≤ res.2.2.2.2.2.1 ∧ ns + 6 ≤ res.2.2.2.2.2.2) ∧ (res = (.inl (some (.int 1)), (I, L, ab_RR, n + 1, nc + 1, ns + 6)))))) : ab_E w (d + 1) mt_W_cable 0 [.ref kx, .int v1, .int v2, .ref ox_out, .null] [] (I, L, ab_RR, n, nc, ns) res := by
  refine ab_aload_n (i := 3) d_W_cable_0 rfl rfl ?_
  refine ab_iconst (v := 0) d_W_cable_1 rfl ?_
  refine ab_aload_n (i := 0) d_W_cable_2 rfl rfl ?_
  refine ab_iload_n (i := 1) d_W_cable_3 rfl rfl ?_
  refine ab_iload_n (i := 2) d_W_cable_4 rfl rfl ?_
  rcases h with ⟨r1, hC, h⟩ | ⟨hC, ⟨l1, l2⟩, h⟩
  · refine ab_callV (me2 := mt_K_cable) (b := kx) (as := [.int v1, .int v2]) (st := [.int 0, .ref ox_out]) (rv := (some (.int r1))) (M2 := (I, L, ab_RR, n, nc, ns)) d_W_cable_5 ce_K_cable v_1067 v_1068 v_1069 (by decide) rfl (Nat.le_of_ble_eq_true rfl) hC (Nat.le_refl _) (Nat.le_refl _) hc hs (fun j h9 => by cases h9) (fun _ _ => rfl) ?_
    show ab_E w (d + 1) mt_W_cable 8 [.ref kx, .int v1, .int v2, .ref ox_out, .null] [.int r1, .int 0, .ref ox_out] (I, L, ab_RR, n, nc, ns) res
    refine ab_i2l d_W_cable_8 ?_
    refine ab_last d_W_cable_9 rfl rfl (by unfold vp_in; decide) ?_
    refine ab_goto (tgt := 17) d_W_cable_10 (by decide) ?_
    refine ab_iconst (v := 0) d_W_cable_17 rfl ?_
    exact ab_iret (ty := .int) d_W_cable_18 rfl rfl h
  · refine ab_callVC (me2 := mt_K_cable) (b := kx) (as := [.int v1, .int v2]) (st := [.int 0, .ref ox_out]) (M2 := (I, L, ab_RR, n, nc + 1, ns + 6)) (E := "java/util/NoSuchElementException") (hpc := 13) (i := ab_id n 36 0) ⟨[], _, _, _, rfl, (fun z hz => by cases hz), by decide +kernel, by decide, v_922, u_1051, rfl⟩ (ab_id_bl (by decide) (by decide)) (by rw [ab_id_cd (by decide)]; decide) d_W_cable_5 ce_K_cable v_1067 v_1068 v_1069 (by decide) rfl (Nat.le_of_ble_eq_true rfl) hC (Nat.le_succ _) (Nat.le_add_right _ _) l1 l2 (fun _ _ => rfl) ?_
    show ab_E w (d + 1) mt_W_cable 13 [.ref kx, .int v1, .int v2, .ref ox_out, .null] [.ref (ab_id n 36 0)] (I, L, ab_RR, n + 1, nc + 1, ns + 6) res
    refine ab_astore (i := 4) d_W_cable_13 (by decide) (Or.inr rfl) ?_
    refine ab_iconst (v := 1) d_W_cable_15 rfl ?_
    exact ab_iret (ty := .int) d_W_cable_16 rfl rfl h
theorem q_W_ring_0 {w : ab_Wd} {d n nc ns : Nat} {I : Nat → Nat → Int32} {L : Nat → Nat → Int64} {res : ab_Re} (v1 : Int32) (v2 : Int32) (hc : nc ≤ res.2.2.2.2.2.1) (hs : ns ≤ res.2.2.2.2.2.2)
    (h : ((∃ (r1 : Int32), ab_C w d mt_K_ring [.ref kx, .int v1, .int v2] (I, L, ab_RR, n, nc, ns) (.inl (some (.int r1)), (I, L, ab_RR, n, nc, ns)) ∧ (res = (.inl (some (.int 0)), (I, (ab_upL L ox_out 0 (Int32.toInt64 r1)), ab_RR, n, nc, ns)))) ∨ (ab_C w d mt_K_ring [.ref kx, .int v1, .int v2] (I, L, ab_RR, n, nc, ns) (.inr "java/util/NoSuchElementException", (I, L, ab_RR, n, nc + 1, ns + 6)) ∧ (nc + 1 ≤ res.2.2.2.2.2.1 ∧ ns + 6 ≤ res.2.2.2.2.2.2) ∧ (res = (.inl (some (.int 1)), (I, L, ab_RR, n + 1, nc + 1, ns + 6)))))) : ab_E w (d + 1) mt_W_ring 0 [.ref kx, .int v1, .int v2, .ref ox_out, .null] [] (I, L, ab_RR, n, nc, ns) res := by
  refine ab_aload_n (i := 3) d_W_ring_0 rfl rfl ?_
  refine ab_iconst (v := 0) d_W_ring_1 rfl ?_
  refine ab_aload_n (i := 0) d_W_ring_2 rfl rfl ?_
  refine ab_iload_n (i := 1) d_W_ring_3 rfl rfl ?_
  refine ab_iload_n (i := 2) d_W_ring_4 rfl rfl ?_
  rcases h with ⟨r1, hC, h⟩ | ⟨hC, ⟨l1, l2⟩, h⟩
  · refine ab_callV (me2 := mt_K_ring) (b := kx) (as := [.int v1, .int v2]) (st := [.int 0, .ref ox_out]) (rv := (some (.int r1))) (M2 := (I, L, ab_RR, n, nc, ns)) d_W_ring_5 ce_K_ring v_1102 v_1103 v_1104 (by decide) rfl (Nat.le_of_ble_eq_true rfl) hC (Nat.le_refl _) (Nat.le_refl _) hc hs (fun j h9 => by cases h9) (fun _ _ => rfl) ?_
    show ab_E w (d + 1) mt_W_ring 8 [.ref kx, .int v1, .int v2, .ref ox_out, .null] [.int r1, .int 0, .ref ox_out] (I, L, ab_RR, n, nc, ns) res
    refine ab_i2l d_W_ring_8 ?_
    refine ab_last d_W_ring_9 rfl rfl (by unfold vp_in; decide) ?_
    refine ab_goto (tgt := 17) d_W_ring_10 (by decide) ?_
    refine ab_iconst (v := 0) d_W_ring_17 rfl ?_
    exact ab_iret (ty := .int) d_W_ring_18 rfl rfl h
  · refine ab_callVC (me2 := mt_K_ring) (b := kx) (as := [.int v1, .int v2]) (st := [.int 0, .ref ox_out]) (M2 := (I, L, ab_RR, n, nc + 1, ns + 6)) (E := "java/util/NoSuchElementException") (hpc := 13) (i := ab_id n 36 0) ⟨[], _, _, _, rfl, (fun z hz => by cases hz), by decide +kernel, by decide, v_922, u_1051, rfl⟩ (ab_id_bl (by decide) (by decide)) (by rw [ab_id_cd (by decide)]; decide) d_W_ring_5 ce_K_ring v_1102 v_1103 v_1104 (by decide) rfl (Nat.le_of_ble_eq_true rfl) hC (Nat.le_succ _) (Nat.le_add_right _ _) l1 l2 (fun _ _ => rfl) ?_
    show ab_E w (d + 1) mt_W_ring 13 [.ref kx, .int v1, .int v2, .ref ox_out, .null] [.ref (ab_id n 36 0)] (I, L, ab_RR, n + 1, nc + 1, ns + 6) res
    refine ab_astore (i := 4) d_W_ring_13 (by decide) (Or.inr rfl) ?_
    refine ab_iconst (v := 1) d_W_ring_15 rfl ?_
    exact ab_iret (ty := .int) d_W_ring_16 rfl rfl h
theorem q_W_taken_0 {w : ab_Wd} {d n nc ns : Nat} {I : Nat → Nat → Int32} {L : Nat → Nat → Int64} {res : ab_Re} (v1 : Int32) (hc : nc ≤ res.2.2.2.2.2.1) (hs : ns ≤ res.2.2.2.2.2.2)
    (h : ((∃ (r1 : Int32), ab_C w d mt_K_taken [.ref kx, .int v1] (I, L, ab_RR, n, nc, ns) (.inl (some (.int r1)), (I, L, ab_RR, n, nc, ns)) ∧ (res = (.inl (some (.int 0)), (I, (ab_upL L ox_out 0 (Int32.toInt64 r1)), ab_RR, n, nc, ns)))) ∨ (ab_C w d mt_K_taken [.ref kx, .int v1] (I, L, ab_RR, n, nc, ns) (.inr "java/util/NoSuchElementException", (I, L, ab_RR, n, nc + 1, ns + 6)) ∧ (nc + 1 ≤ res.2.2.2.2.2.1 ∧ ns + 6 ≤ res.2.2.2.2.2.2) ∧ (res = (.inl (some (.int 1)), (I, L, ab_RR, n + 1, nc + 1, ns + 6)))))) : ab_E w (d + 1) mt_W_taken 0 [.ref kx, .int v1, .ref ox_out, .null] [] (I, L, ab_RR, n, nc, ns) res := by
  refine ab_aload_n (i := 2) d_W_taken_0 rfl rfl ?_
  refine ab_iconst (v := 0) d_W_taken_1 rfl ?_
  refine ab_aload_n (i := 0) d_W_taken_2 rfl rfl ?_
  refine ab_iload_n (i := 1) d_W_taken_3 rfl rfl ?_
  rcases h with ⟨r1, hC, h⟩ | ⟨hC, ⟨l1, l2⟩, h⟩
  · refine ab_callV (me2 := mt_K_taken) (b := kx) (as := [.int v1]) (st := [.int 0, .ref ox_out]) (rv := (some (.int r1))) (M2 := (I, L, ab_RR, n, nc, ns)) d_W_taken_4 ce_K_taken v_1113 v_1114 v_1115 (by decide) rfl (Nat.le_of_ble_eq_true rfl) hC (Nat.le_refl _) (Nat.le_refl _) hc hs (fun j h9 => by cases h9) (fun _ _ => rfl) ?_
    show ab_E w (d + 1) mt_W_taken 7 [.ref kx, .int v1, .ref ox_out, .null] [.int r1, .int 0, .ref ox_out] (I, L, ab_RR, n, nc, ns) res
    refine ab_i2l d_W_taken_7 ?_
    refine ab_last d_W_taken_8 rfl rfl (by unfold vp_in; decide) ?_
    refine ab_goto (tgt := 15) d_W_taken_9 (by decide) ?_
    refine ab_iconst (v := 0) d_W_taken_15 rfl ?_
    exact ab_iret (ty := .int) d_W_taken_16 rfl rfl h
  · refine ab_callVC (me2 := mt_K_taken) (b := kx) (as := [.int v1]) (st := [.int 0, .ref ox_out]) (M2 := (I, L, ab_RR, n, nc + 1, ns + 6)) (E := "java/util/NoSuchElementException") (hpc := 12) (i := ab_id n 36 0) ⟨[], _, _, _, rfl, (fun z hz => by cases hz), by decide +kernel, by decide, v_922, u_1051, rfl⟩ (ab_id_bl (by decide) (by decide)) (by rw [ab_id_cd (by decide)]; decide) d_W_taken_4 ce_K_taken v_1113 v_1114 v_1115 (by decide) rfl (Nat.le_of_ble_eq_true rfl) hC (Nat.le_succ _) (Nat.le_add_right _ _) l1 l2 (fun _ _ => rfl) ?_
    show ab_E w (d + 1) mt_W_taken 12 [.ref kx, .int v1, .ref ox_out, .null] [.ref (ab_id n 36 0)] (I, L, ab_RR, n + 1, nc + 1, ns + 6) res
    refine ab_astore_n (i := 3) d_W_taken_12 rfl (by decide) (Or.inr rfl) ?_
    refine ab_iconst (v := 1) d_W_taken_13 rfl ?_
    exact ab_iret (ty := .int) d_W_taken_14 rfl rfl h
theorem q_W_site_0 {w : ab_Wd} {d n nc ns : Nat} {I : Nat → Nat → Int32} {L : Nat → Nat → Int64} {res : ab_Re} (v1 : Int32) (v2 : Int32) (hc : nc ≤ res.2.2.2.2.2.1) (hs : ns ≤ res.2.2.2.2.2.2)
    (h : ((∃ (r1 : Int32) (I2 : Nat → Nat → Int32), ab_C w d mt_K_site [.ref kx, .int v1, .int v2] (I, L, ab_RR, n, nc, ns) (.inl (some (.int r1)), (I2, L, ab_RR, n, nc, ns)) ∧ (res = (.inl (some (.int 0)), (I2, (ab_upL L ox_out 0 (Int32.toInt64 r1)), ab_RR, n, nc, ns)))) ∨ (ab_C w d mt_K_site [.ref kx, .int v1, .int v2] (I, L, ab_RR, n, nc, ns) (.inr "java/util/NoSuchElementException", (I, L, ab_RR, n, nc + 1, ns + 6)) ∧ (nc + 1 ≤ res.2.2.2.2.2.1 ∧ ns + 6 ≤ res.2.2.2.2.2.2) ∧ (res = (.inl (some (.int 1)), (I, L, ab_RR, n + 1, nc + 1, ns + 6)))))) : ab_E w (d + 1) mt_W_site 0 [.ref kx, .int v1, .int v2, .ref ox_out, .null] [] (I, L, ab_RR, n, nc, ns) res := by
  refine ab_aload_n (i := 3) d_W_site_0 rfl rfl ?_
  refine ab_iconst (v := 0) d_W_site_1 rfl ?_
  refine ab_aload_n (i := 0) d_W_site_2 rfl rfl ?_
  refine ab_iload_n (i := 1) d_W_site_3 rfl rfl ?_
  refine ab_iload_n (i := 2) d_W_site_4 rfl rfl ?_
  rcases h with ⟨r1, I2, hC, h⟩ | ⟨hC, ⟨l1, l2⟩, h⟩
  · refine ab_callV (me2 := mt_K_site) (b := kx) (as := [.int v1, .int v2]) (st := [.int 0, .ref ox_out]) (rv := (some (.int r1))) (M2 := (I2, L, ab_RR, n, nc, ns)) d_W_site_5 ce_K_site v_1120 v_1121 v_1122 (by decide) rfl (Nat.le_of_ble_eq_true rfl) hC (Nat.le_refl _) (Nat.le_refl _) hc hs (fun j h9 => by cases h9) (fun _ _ => rfl) ?_
    show ab_E w (d + 1) mt_W_site 8 [.ref kx, .int v1, .int v2, .ref ox_out, .null] [.int r1, .int 0, .ref ox_out] (I2, L, ab_RR, n, nc, ns) res
    refine ab_i2l d_W_site_8 ?_
    refine ab_last d_W_site_9 rfl rfl (by unfold vp_in; decide) ?_
    refine ab_goto (tgt := 17) d_W_site_10 (by decide) ?_
    refine ab_iconst (v := 0) d_W_site_17 rfl ?_
    exact ab_iret (ty := .int) d_W_site_18 rfl rfl h
  · refine ab_callVC (me2 := mt_K_site) (b := kx) (as := [.int v1, .int v2]) (st := [.int 0, .ref ox_out]) (M2 := (I, L, ab_RR, n, nc + 1, ns + 6)) (E := "java/util/NoSuchElementException") (hpc := 13) (i := ab_id n 36 0) ⟨[], _, _, _, rfl, (fun z hz => by cases hz), by decide +kernel, by decide, v_922, u_1051, rfl⟩ (ab_id_bl (by decide) (by decide)) (by rw [ab_id_cd (by decide)]; decide) d_W_site_5 ce_K_site v_1120 v_1121 v_1122 (by decide) rfl (Nat.le_of_ble_eq_true rfl) hC (Nat.le_succ _) (Nat.le_add_right _ _) l1 l2 (fun _ _ => rfl) ?_
    show ab_E w (d + 1) mt_W_site 13 [.ref kx, .int v1, .int v2, .ref ox_out, .null] [.ref (ab_id n 36 0)] (I, L, ab_RR, n + 1, nc + 1, ns + 6) res
    refine ab_astore (i := 4) d_W_site_13 (by decide) (Or.inr rfl) ?_
    refine ab_iconst (v := 1) d_W_site_15 rfl ?_
    exact ab_iret (ty := .int) d_W_site_16 rfl rfl h
theorem q_W_way_0 {w : ab_Wd} {d n nc ns : Nat} {I : Nat → Nat → Int32} {L : Nat → Nat → Int64} {res : ab_Re} (v1 : Int32) (v2 : Int32) (v3 : Int32) (hc : nc ≤ res.2.2.2.2.2.1) (hs : ns ≤ res.2.2.2.2.2.2)
    (h : ((∃ (r1 : Int32) (I2 : Nat → Nat → Int32), ab_C w d mt_K_way [.ref kx, .int v1, .int v2, .int v3] (I, L, ab_RR, n, nc, ns) (.inl (some (.int r1)), (I2, L, ab_RR, n, nc, ns)) ∧ (res = (.inl (some (.int 0)), (I2, (ab_upL L ox_out 0 (Int32.toInt64 r1)), ab_RR, n, nc, ns)))) ∨ (ab_C w d mt_K_way [.ref kx, .int v1, .int v2, .int v3] (I, L, ab_RR, n, nc, ns) (.inr "java/util/NoSuchElementException", (I, L, ab_RR, n, nc + 1, ns + 6)) ∧ (nc + 1 ≤ res.2.2.2.2.2.1 ∧ ns + 6 ≤ res.2.2.2.2.2.2) ∧ (res = (.inl (some (.int 1)), (I, L, ab_RR, n + 1, nc + 1, ns + 6)))))) : ab_E w (d + 1) mt_W_way 0 [.ref kx, .int v1, .int v2, .int v3, .ref ox_out, .null] [] (I, L, ab_RR, n, nc, ns) res := by
  refine ab_aload (i := 4) d_W_way_0 rfl ?_
  refine ab_iconst (v := 0) d_W_way_2 rfl ?_
  refine ab_aload_n (i := 0) d_W_way_3 rfl rfl ?_
  refine ab_iload_n (i := 1) d_W_way_4 rfl rfl ?_
  refine ab_iload_n (i := 2) d_W_way_5 rfl rfl ?_
  refine ab_iload_n (i := 3) d_W_way_6 rfl rfl ?_
  rcases h with ⟨r1, I2, hC, h⟩ | ⟨hC, ⟨l1, l2⟩, h⟩
  · refine ab_callV (me2 := mt_K_way) (b := kx) (as := [.int v1, .int v2, .int v3]) (st := [.int 0, .ref ox_out]) (rv := (some (.int r1))) (M2 := (I2, L, ab_RR, n, nc, ns)) d_W_way_7 ce_K_way v_1139 v_1140 v_1141 (by decide) rfl (Nat.le_of_ble_eq_true rfl) hC (Nat.le_refl _) (Nat.le_refl _) hc hs (fun j h9 => by cases h9) (fun _ _ => rfl) ?_
    show ab_E w (d + 1) mt_W_way 10 [.ref kx, .int v1, .int v2, .int v3, .ref ox_out, .null] [.int r1, .int 0, .ref ox_out] (I2, L, ab_RR, n, nc, ns) res
    refine ab_i2l d_W_way_10 ?_
    refine ab_last d_W_way_11 rfl rfl (by unfold vp_in; decide) ?_
    refine ab_goto (tgt := 19) d_W_way_12 (by decide) ?_
    refine ab_iconst (v := 0) d_W_way_19 rfl ?_
    exact ab_iret (ty := .int) d_W_way_20 rfl rfl h
  · refine ab_callVC (me2 := mt_K_way) (b := kx) (as := [.int v1, .int v2, .int v3]) (st := [.int 0, .ref ox_out]) (M2 := (I, L, ab_RR, n, nc + 1, ns + 6)) (E := "java/util/NoSuchElementException") (hpc := 15) (i := ab_id n 36 0) ⟨[], _, _, _, rfl, (fun z hz => by cases hz), by decide +kernel, by decide, v_922, u_1051, rfl⟩ (ab_id_bl (by decide) (by decide)) (by rw [ab_id_cd (by decide)]; decide) d_W_way_7 ce_K_way v_1139 v_1140 v_1141 (by decide) rfl (Nat.le_of_ble_eq_true rfl) hC (Nat.le_succ _) (Nat.le_add_right _ _) l1 l2 (fun _ _ => rfl) ?_
    show ab_E w (d + 1) mt_W_way 15 [.ref kx, .int v1, .int v2, .int v3, .ref ox_out, .null] [.ref (ab_id n 36 0)] (I, L, ab_RR, n + 1, nc + 1, ns + 6) res
    refine ab_astore (i := 5) d_W_way_15 (by decide) (Or.inr rfl) ?_
    refine ab_iconst (v := 1) d_W_way_17 rfl ?_
    exact ab_iret (ty := .int) d_W_way_18 rfl rfl h
theorem q_W_firm_0 {w : ab_Wd} {d n nc ns : Nat} {I : Nat → Nat → Int32} {L : Nat → Nat → Int64} {res : ab_Re} (v1 : Int32) (v2 : Int32) (hc : nc ≤ res.2.2.2.2.2.1) (hs : ns ≤ res.2.2.2.2.2.2)
    (h : ((∃ (r1 : Int32) (I2 : Nat → Nat → Int32), ab_C w d mt_K_firm [.ref kx, .int v1, .int v2] (I, L, ab_RR, n, nc, ns) (.inl (some (.int r1)), (I2, L, ab_RR, n, nc, ns)) ∧ (res = (.inl (some (.int 0)), (I2, (ab_upL L ox_out 0 (Int32.toInt64 r1)), ab_RR, n, nc, ns)))) ∨ (ab_C w d mt_K_firm [.ref kx, .int v1, .int v2] (I, L, ab_RR, n, nc, ns) (.inr "java/util/NoSuchElementException", (I, L, ab_RR, n, nc + 1, ns + 6)) ∧ (nc + 1 ≤ res.2.2.2.2.2.1 ∧ ns + 6 ≤ res.2.2.2.2.2.2) ∧ (res = (.inl (some (.int 1)), (I, L, ab_RR, n + 1, nc + 1, ns + 6)))))) : ab_E w (d + 1) mt_W_firm 0 [.ref kx, .int v1, .int v2, .ref ox_out, .null] [] (I, L, ab_RR, n, nc, ns) res := by
  refine ab_aload_n (i := 3) d_W_firm_0 rfl rfl ?_
  refine ab_iconst (v := 0) d_W_firm_1 rfl ?_
  refine ab_aload_n (i := 0) d_W_firm_2 rfl rfl ?_
  refine ab_iload_n (i := 1) d_W_firm_3 rfl rfl ?_
  refine ab_iload_n (i := 2) d_W_firm_4 rfl rfl ?_
  rcases h with ⟨r1, I2, hC, h⟩ | ⟨hC, ⟨l1, l2⟩, h⟩
  · refine ab_callV (me2 := mt_K_firm) (b := kx) (as := [.int v1, .int v2]) (st := [.int 0, .ref ox_out]) (rv := (some (.int r1))) (M2 := (I2, L, ab_RR, n, nc, ns)) d_W_firm_5 ce_K_firm v_1175 v_1176 v_1177 (by decide) rfl (Nat.le_of_ble_eq_true rfl) hC (Nat.le_refl _) (Nat.le_refl _) hc hs (fun j h9 => by cases h9) (fun _ _ => rfl) ?_
    show ab_E w (d + 1) mt_W_firm 8 [.ref kx, .int v1, .int v2, .ref ox_out, .null] [.int r1, .int 0, .ref ox_out] (I2, L, ab_RR, n, nc, ns) res
    refine ab_i2l d_W_firm_8 ?_
    refine ab_last d_W_firm_9 rfl rfl (by unfold vp_in; decide) ?_
    refine ab_goto (tgt := 17) d_W_firm_10 (by decide) ?_
    refine ab_iconst (v := 0) d_W_firm_17 rfl ?_
    exact ab_iret (ty := .int) d_W_firm_18 rfl rfl h
  · refine ab_callVC (me2 := mt_K_firm) (b := kx) (as := [.int v1, .int v2]) (st := [.int 0, .ref ox_out]) (M2 := (I, L, ab_RR, n, nc + 1, ns + 6)) (E := "java/util/NoSuchElementException") (hpc := 13) (i := ab_id n 36 0) ⟨[], _, _, _, rfl, (fun z hz => by cases hz), by decide +kernel, by decide, v_922, u_1051, rfl⟩ (ab_id_bl (by decide) (by decide)) (by rw [ab_id_cd (by decide)]; decide) d_W_firm_5 ce_K_firm v_1175 v_1176 v_1177 (by decide) rfl (Nat.le_of_ble_eq_true rfl) hC (Nat.le_succ _) (Nat.le_add_right _ _) l1 l2 (fun _ _ => rfl) ?_
    show ab_E w (d + 1) mt_W_firm 13 [.ref kx, .int v1, .int v2, .ref ox_out, .null] [.ref (ab_id n 36 0)] (I, L, ab_RR, n + 1, nc + 1, ns + 6) res
    refine ab_astore (i := 4) d_W_firm_13 (by decide) (Or.inr rfl) ?_
    refine ab_iconst (v := 1) d_W_firm_15 rfl ?_
    exact ab_iret (ty := .int) d_W_firm_16 rfl rfl h
theorem q_W_share_0 {w : ab_Wd} {d n nc ns : Nat} {I : Nat → Nat → Int32} {L : Nat → Nat → Int64} {res : ab_Re} (v1 : Int32) (hc : nc ≤ res.2.2.2.2.2.1) (hs : ns ≤ res.2.2.2.2.2.2)
    (h : ((∃ (r1 : Int32), ab_C w d mt_K_share [.ref kx, .int v1] (I, L, ab_RR, n, nc, ns) (.inl (some (.int r1)), (I, L, ab_RR, n, nc, ns)) ∧ (res = (.inl (some (.int 0)), (I, (ab_upL L ox_out 0 (Int32.toInt64 r1)), ab_RR, n, nc, ns)))) ∨ (ab_C w d mt_K_share [.ref kx, .int v1] (I, L, ab_RR, n, nc, ns) (.inr "java/util/NoSuchElementException", (I, L, ab_RR, n, nc + 1, ns + 6)) ∧ (nc + 1 ≤ res.2.2.2.2.2.1 ∧ ns + 6 ≤ res.2.2.2.2.2.2) ∧ (res = (.inl (some (.int 1)), (I, L, ab_RR, n + 1, nc + 1, ns + 6)))))) : ab_E w (d + 1) mt_W_share 0 [.ref kx, .int v1, .ref ox_out, .null] [] (I, L, ab_RR, n, nc, ns) res := by
  refine ab_aload_n (i := 2) d_W_share_0 rfl rfl ?_
  refine ab_iconst (v := 0) d_W_share_1 rfl ?_
  refine ab_aload_n (i := 0) d_W_share_2 rfl rfl ?_
  refine ab_iload_n (i := 1) d_W_share_3 rfl rfl ?_
  rcases h with ⟨r1, hC, h⟩ | ⟨hC, ⟨l1, l2⟩, h⟩
  · refine ab_callV (me2 := mt_K_share) (b := kx) (as := [.int v1]) (st := [.int 0, .ref ox_out]) (rv := (some (.int r1))) (M2 := (I, L, ab_RR, n, nc, ns)) d_W_share_4 ce_K_share v_1190 v_1191 v_1192 (by decide) rfl (Nat.le_of_ble_eq_true rfl) hC (Nat.le_refl _) (Nat.le_refl _) hc hs (fun j h9 => by cases h9) (fun _ _ => rfl) ?_
    show ab_E w (d + 1) mt_W_share 7 [.ref kx, .int v1, .ref ox_out, .null] [.int r1, .int 0, .ref ox_out] (I, L, ab_RR, n, nc, ns) res
    refine ab_i2l d_W_share_7 ?_
    refine ab_last d_W_share_8 rfl rfl (by unfold vp_in; decide) ?_
    refine ab_goto (tgt := 15) d_W_share_9 (by decide) ?_
    refine ab_iconst (v := 0) d_W_share_15 rfl ?_
    exact ab_iret (ty := .int) d_W_share_16 rfl rfl h
  · refine ab_callVC (me2 := mt_K_share) (b := kx) (as := [.int v1]) (st := [.int 0, .ref ox_out]) (M2 := (I, L, ab_RR, n, nc + 1, ns + 6)) (E := "java/util/NoSuchElementException") (hpc := 12) (i := ab_id n 36 0) ⟨[], _, _, _, rfl, (fun z hz => by cases hz), by decide +kernel, by decide, v_922, u_1051, rfl⟩ (ab_id_bl (by decide) (by decide)) (by rw [ab_id_cd (by decide)]; decide) d_W_share_4 ce_K_share v_1190 v_1191 v_1192 (by decide) rfl (Nat.le_of_ble_eq_true rfl) hC (Nat.le_succ _) (Nat.le_add_right _ _) l1 l2 (fun _ _ => rfl) ?_
    show ab_E w (d + 1) mt_W_share 12 [.ref kx, .int v1, .ref ox_out, .null] [.ref (ab_id n 36 0)] (I, L, ab_RR, n + 1, nc + 1, ns + 6) res
    refine ab_astore_n (i := 3) d_W_share_12 rfl (by decide) (Or.inr rfl) ?_
    refine ab_iconst (v := 1) d_W_share_13 rfl ?_
    exact ab_iret (ty := .int) d_W_share_14 rfl rfl h
theorem q_W_group_0 {w : ab_Wd} {d n nc ns : Nat} {I : Nat → Nat → Int32} {L : Nat → Nat → Int64} {res : ab_Re} (v1 : Int32) (v2 : Int32) (hc : nc ≤ res.2.2.2.2.2.1) (hs : ns ≤ res.2.2.2.2.2.2)
    (h : ((∃ (r1 : Int32) (I2 : Nat → Nat → Int32), ab_C w d mt_K_group [.ref kx, .int v1, .int v2] (I, L, ab_RR, n, nc, ns) (.inl (some (.int r1)), (I2, L, ab_RR, n, nc, ns)) ∧ (res = (.inl (some (.int 0)), (I2, (ab_upL L ox_out 0 (Int32.toInt64 r1)), ab_RR, n, nc, ns)))) ∨ (ab_C w d mt_K_group [.ref kx, .int v1, .int v2] (I, L, ab_RR, n, nc, ns) (.inr "java/lang/IllegalArgumentException", (I, L, ab_RR, n, nc + 1, ns + 6)) ∧ (nc + 1 ≤ res.2.2.2.2.2.1 ∧ ns + 6 ≤ res.2.2.2.2.2.2) ∧ (res = (.inl (some (.int 1)), (I, L, ab_RR, n + 1, nc + 1, ns + 6)))) ∨ (ab_C w d mt_K_group [.ref kx, .int v1, .int v2] (I, L, ab_RR, n, nc, ns) (.inr "java/util/NoSuchElementException", (I, L, ab_RR, n, nc + 1, ns + 6)) ∧ (nc + 1 ≤ res.2.2.2.2.2.1 ∧ ns + 6 ≤ res.2.2.2.2.2.2) ∧ (res = (.inl (some (.int 2)), (I, L, ab_RR, n + 1, nc + 1, ns + 6)))))) : ab_E w (d + 1) mt_W_group 0 [.ref kx, .int v1, .int v2, .ref ox_out, .null] [] (I, L, ab_RR, n, nc, ns) res := by
  refine ab_aload_n (i := 3) d_W_group_0 rfl rfl ?_
  refine ab_iconst (v := 0) d_W_group_1 rfl ?_
  refine ab_aload_n (i := 0) d_W_group_2 rfl rfl ?_
  refine ab_iload_n (i := 1) d_W_group_3 rfl rfl ?_
  refine ab_iload_n (i := 2) d_W_group_4 rfl rfl ?_
  rcases h with ⟨r1, I2, hC, h⟩ | ⟨hC, ⟨l1, l2⟩, h⟩ | ⟨hC, ⟨l1, l2⟩, h⟩
  · refine ab_callV (me2 := mt_K_group) (b := kx) (as := [.int v1, .int v2]) (st := [.int 0, .ref ox_out]) (rv := (some (.int r1))) (M2 := (I2, L, ab_RR, n, nc, ns)) d_W_group_5 ce_K_group v_1197 v_1198 v_1199 (by decide) rfl (Nat.le_of_ble_eq_true rfl) hC (Nat.le_refl _) (Nat.le_refl _) hc hs (fun j h9 => by cases h9) (fun _ _ => rfl) ?_
    show ab_E w (d + 1) mt_W_group 8 [.ref kx, .int v1, .int v2, .ref ox_out, .null] [.int r1, .int 0, .ref ox_out] (I2, L, ab_RR, n, nc, ns) res
    refine ab_i2l d_W_group_8 ?_
    refine ab_last d_W_group_9 rfl rfl (by unfold vp_in; decide) ?_
    refine ab_goto (tgt := 21) d_W_group_10 (by decide) ?_
    refine ab_iconst (v := 0) d_W_group_21 rfl ?_
    exact ab_iret (ty := .int) d_W_group_22 rfl rfl h
  · refine ab_callVC (me2 := mt_K_group) (b := kx) (as := [.int v1, .int v2]) (st := [.int 0, .ref ox_out]) (M2 := (I, L, ab_RR, n, nc + 1, ns + 6)) (E := "java/lang/IllegalArgumentException") (hpc := 13) (i := ab_id n 36 0) ⟨[], _, _, _, rfl, (fun z hz => by cases hz), by decide +kernel, by decide, v_693, u_700, rfl⟩ (ab_id_bl (by decide) (by decide)) (by rw [ab_id_cd (by decide)]; decide) d_W_group_5 ce_K_group v_1197 v_1198 v_1199 (by decide) rfl (Nat.le_of_ble_eq_true rfl) hC (Nat.le_succ _) (Nat.le_add_right _ _) l1 l2 (fun _ _ => rfl) ?_
    show ab_E w (d + 1) mt_W_group 13 [.ref kx, .int v1, .int v2, .ref ox_out, .null] [.ref (ab_id n 36 0)] (I, L, ab_RR, n + 1, nc + 1, ns + 6) res
    refine ab_astore (i := 4) d_W_group_13 (by decide) (Or.inr rfl) ?_
    refine ab_iconst (v := 1) d_W_group_15 rfl ?_
    exact ab_iret (ty := .int) d_W_group_16 rfl rfl h
  · refine ab_callVC (me2 := mt_K_group) (b := kx) (as := [.int v1, .int v2]) (st := [.int 0, .ref ox_out]) (M2 := (I, L, ab_RR, n, nc + 1, ns + 6)) (E := "java/util/NoSuchElementException") (hpc := 17) (i := ab_id n 36 0) ⟨[_], _, _, _, rfl, (fun z hz => by cases List.mem_singleton.mp hz; exact Or.inr ⟨by decide, _, v_693, by decide +kernel⟩), by decide +kernel, by decide, v_922, u_1051, rfl⟩ (ab_id_bl (by decide) (by decide)) (by rw [ab_id_cd (by decide)]; decide) d_W_group_5 ce_K_group v_1197 v_1198 v_1199 (by decide) rfl (Nat.le_of_ble_eq_true rfl) hC (Nat.le_succ _) (Nat.le_add_right _ _) l1 l2 (fun _ _ => rfl) ?_
    show ab_E w (d + 1) mt_W_group 17 [.ref kx, .int v1, .int v2, .ref ox_out, .null] [.ref (ab_id n 36 0)] (I, L, ab_RR, n + 1, nc + 1, ns + 6) res
    refine ab_astore (i := 4) d_W_group_17 (by decide) (Or.inr rfl) ?_
    refine ab_iconst (v := 2) d_W_group_19 rfl ?_
    exact ab_iret (ty := .int) d_W_group_20 rfl rfl h
theorem q_W_without_0 {w : ab_Wd} {d n nc ns : Nat} {I : Nat → Nat → Int32} {L : Nat → Nat → Int64} {res : ab_Re} (v1 : Int32) (v2 : Int32) (hc : nc ≤ res.2.2.2.2.2.1) (hs : ns ≤ res.2.2.2.2.2.2)
    (h : ((∃ (r1 : Int32) (I2 : Nat → Nat → Int32), ab_C w d mt_K_without [.ref kx, .int v1, .int v2] (I, L, ab_RR, n, nc, ns) (.inl (some (.int r1)), (I2, L, ab_RR, n, nc, ns)) ∧ (res = (.inl (some (.int 0)), (I2, (ab_upL L ox_out 0 (Int32.toInt64 r1)), ab_RR, n, nc, ns)))) ∨ (ab_C w d mt_K_without [.ref kx, .int v1, .int v2] (I, L, ab_RR, n, nc, ns) (.inr "java/util/NoSuchElementException", (I, L, ab_RR, n, nc + 1, ns + 6)) ∧ (nc + 1 ≤ res.2.2.2.2.2.1 ∧ ns + 6 ≤ res.2.2.2.2.2.2) ∧ (res = (.inl (some (.int 1)), (I, L, ab_RR, n + 1, nc + 1, ns + 6)))))) : ab_E w (d + 1) mt_W_without 0 [.ref kx, .int v1, .int v2, .ref ox_out, .null] [] (I, L, ab_RR, n, nc, ns) res := by
  refine ab_aload_n (i := 3) d_W_without_0 rfl rfl ?_
  refine ab_iconst (v := 0) d_W_without_1 rfl ?_
  refine ab_aload_n (i := 0) d_W_without_2 rfl rfl ?_
  refine ab_iload_n (i := 1) d_W_without_3 rfl rfl ?_
  refine ab_iload_n (i := 2) d_W_without_4 rfl rfl ?_
  rcases h with ⟨r1, I2, hC, h⟩ | ⟨hC, ⟨l1, l2⟩, h⟩
  · refine ab_callV (me2 := mt_K_without) (b := kx) (as := [.int v1, .int v2]) (st := [.int 0, .ref ox_out]) (rv := (some (.int r1))) (M2 := (I2, L, ab_RR, n, nc, ns)) d_W_without_5 ce_K_without v_1208 v_1209 v_1210 (by decide) rfl (Nat.le_of_ble_eq_true rfl) hC (Nat.le_refl _) (Nat.le_refl _) hc hs (fun j h9 => by cases h9) (fun _ _ => rfl) ?_
    show ab_E w (d + 1) mt_W_without 8 [.ref kx, .int v1, .int v2, .ref ox_out, .null] [.int r1, .int 0, .ref ox_out] (I2, L, ab_RR, n, nc, ns) res
    refine ab_i2l d_W_without_8 ?_
    refine ab_last d_W_without_9 rfl rfl (by unfold vp_in; decide) ?_
    refine ab_goto (tgt := 17) d_W_without_10 (by decide) ?_
    refine ab_iconst (v := 0) d_W_without_17 rfl ?_
    exact ab_iret (ty := .int) d_W_without_18 rfl rfl h
  · refine ab_callVC (me2 := mt_K_without) (b := kx) (as := [.int v1, .int v2]) (st := [.int 0, .ref ox_out]) (M2 := (I, L, ab_RR, n, nc + 1, ns + 6)) (E := "java/util/NoSuchElementException") (hpc := 13) (i := ab_id n 36 0) ⟨[], _, _, _, rfl, (fun z hz => by cases hz), by decide +kernel, by decide, v_922, u_1051, rfl⟩ (ab_id_bl (by decide) (by decide)) (by rw [ab_id_cd (by decide)]; decide) d_W_without_5 ce_K_without v_1208 v_1209 v_1210 (by decide) rfl (Nat.le_of_ble_eq_true rfl) hC (Nat.le_succ _) (Nat.le_add_right _ _) l1 l2 (fun _ _ => rfl) ?_
    show ab_E w (d + 1) mt_W_without 13 [.ref kx, .int v1, .int v2, .ref ox_out, .null] [.ref (ab_id n 36 0)] (I, L, ab_RR, n + 1, nc + 1, ns + 6) res
    refine ab_astore (i := 4) d_W_without_13 (by decide) (Or.inr rfl) ?_
    refine ab_iconst (v := 1) d_W_without_15 rfl ?_
    exact ab_iret (ty := .int) d_W_without_16 rfl rfl h
theorem q_W_told_0 {w : ab_Wd} {d n nc ns : Nat} {I : Nat → Nat → Int32} {L : Nat → Nat → Int64} {res : ab_Re} (v1 : Int32) (hc : nc ≤ res.2.2.2.2.2.1) (hs : ns ≤ res.2.2.2.2.2.2)
    (h : ((∃ (r1 : Int32) (I2 : Nat → Nat → Int32), ab_C w d mt_K_told [.ref kx, .int v1] (I, L, ab_RR, n, nc, ns) (.inl (some (.int r1)), (I2, L, ab_RR, n, nc, ns)) ∧ (res = (.inl (some (.int 0)), (I2, (ab_upL L ox_out 0 (Int32.toInt64 r1)), ab_RR, n, nc, ns)))) ∨ (ab_C w d mt_K_told [.ref kx, .int v1] (I, L, ab_RR, n, nc, ns) (.inr "java/util/NoSuchElementException", (I, L, ab_RR, n, nc + 1, ns + 6)) ∧ (nc + 1 ≤ res.2.2.2.2.2.1 ∧ ns + 6 ≤ res.2.2.2.2.2.2) ∧ (res = (.inl (some (.int 1)), (I, L, ab_RR, n + 1, nc + 1, ns + 6)))))) : ab_E w (d + 1) mt_W_told 0 [.ref kx, .int v1, .ref ox_out, .null] [] (I, L, ab_RR, n, nc, ns) res := by
  refine ab_aload_n (i := 2) d_W_told_0 rfl rfl ?_
  refine ab_iconst (v := 0) d_W_told_1 rfl ?_
  refine ab_aload_n (i := 0) d_W_told_2 rfl rfl ?_
  refine ab_iload_n (i := 1) d_W_told_3 rfl rfl ?_
  rcases h with ⟨r1, I2, hC, h⟩ | ⟨hC, ⟨l1, l2⟩, h⟩
  · refine ab_callV (me2 := mt_K_told) (b := kx) (as := [.int v1]) (st := [.int 0, .ref ox_out]) (rv := (some (.int r1))) (M2 := (I2, L, ab_RR, n, nc, ns)) d_W_told_4 ce_K_told v_1215 v_1216 v_1217 (by decide) rfl (Nat.le_of_ble_eq_true rfl) hC (Nat.le_refl _) (Nat.le_refl _) hc hs (fun j h9 => by cases h9) (fun _ _ => rfl) ?_
    show ab_E w (d + 1) mt_W_told 7 [.ref kx, .int v1, .ref ox_out, .null] [.int r1, .int 0, .ref ox_out] (I2, L, ab_RR, n, nc, ns) res
    refine ab_i2l d_W_told_7 ?_
    refine ab_last d_W_told_8 rfl rfl (by unfold vp_in; decide) ?_
    refine ab_goto (tgt := 15) d_W_told_9 (by decide) ?_
    refine ab_iconst (v := 0) d_W_told_15 rfl ?_
    exact ab_iret (ty := .int) d_W_told_16 rfl rfl h
  · refine ab_callVC (me2 := mt_K_told) (b := kx) (as := [.int v1]) (st := [.int 0, .ref ox_out]) (M2 := (I, L, ab_RR, n, nc + 1, ns + 6)) (E := "java/util/NoSuchElementException") (hpc := 12) (i := ab_id n 36 0) ⟨[], _, _, _, rfl, (fun z hz => by cases hz), by decide +kernel, by decide, v_922, u_1051, rfl⟩ (ab_id_bl (by decide) (by decide)) (by rw [ab_id_cd (by decide)]; decide) d_W_told_4 ce_K_told v_1215 v_1216 v_1217 (by decide) rfl (Nat.le_of_ble_eq_true rfl) hC (Nat.le_succ _) (Nat.le_add_right _ _) l1 l2 (fun _ _ => rfl) ?_
    show ab_E w (d + 1) mt_W_told 12 [.ref kx, .int v1, .ref ox_out, .null] [.ref (ab_id n 36 0)] (I, L, ab_RR, n + 1, nc + 1, ns + 6) res
    refine ab_astore_n (i := 3) d_W_told_12 rfl (by decide) (Or.inr rfl) ?_
    refine ab_iconst (v := 1) d_W_told_13 rfl ?_
    exact ab_iret (ty := .int) d_W_told_14 rfl rfl h
theorem q_W_joined_0 {w : ab_Wd} {d n nc ns : Nat} {I : Nat → Nat → Int32} {L : Nat → Nat → Int64} {res : ab_Re} (v1 : Int32) (hc : nc ≤ res.2.2.2.2.2.1) (hs : ns ≤ res.2.2.2.2.2.2)
    (h : ((∃ (r1 : Int32) (I2 : Nat → Nat → Int32), ab_C w d mt_K_joined [.ref kx, .int v1] (I, L, ab_RR, n, nc, ns) (.inl (some (.int r1)), (I2, L, ab_RR, n, nc, ns)) ∧ (res = (.inl (some (.int 0)), (I2, (ab_upL L ox_out 0 (Int32.toInt64 r1)), ab_RR, n, nc, ns)))) ∨ (ab_C w d mt_K_joined [.ref kx, .int v1] (I, L, ab_RR, n, nc, ns) (.inr "java/lang/IllegalArgumentException", (I, L, ab_RR, n, nc + 1, ns + 6)) ∧ (nc + 1 ≤ res.2.2.2.2.2.1 ∧ ns + 6 ≤ res.2.2.2.2.2.2) ∧ (res = (.inl (some (.int 1)), (I, L, ab_RR, n + 1, nc + 1, ns + 6)))))) : ab_E w (d + 1) mt_W_joined 0 [.ref kx, .int v1, .ref ox_out, .null] [] (I, L, ab_RR, n, nc, ns) res := by
  refine ab_aload_n (i := 2) d_W_joined_0 rfl rfl ?_
  refine ab_iconst (v := 0) d_W_joined_1 rfl ?_
  refine ab_aload_n (i := 0) d_W_joined_2 rfl rfl ?_
  refine ab_iload_n (i := 1) d_W_joined_3 rfl rfl ?_
  rcases h with ⟨r1, I2, hC, h⟩ | ⟨hC, ⟨l1, l2⟩, h⟩
  · refine ab_callV (me2 := mt_K_joined) (b := kx) (as := [.int v1]) (st := [.int 0, .ref ox_out]) (rv := (some (.int r1))) (M2 := (I2, L, ab_RR, n, nc, ns)) d_W_joined_4 ce_K_joined v_1246 v_1247 v_1248 (by decide) rfl (Nat.le_of_ble_eq_true rfl) hC (Nat.le_refl _) (Nat.le_refl _) hc hs (fun j h9 => by cases h9) (fun _ _ => rfl) ?_
    show ab_E w (d + 1) mt_W_joined 7 [.ref kx, .int v1, .ref ox_out, .null] [.int r1, .int 0, .ref ox_out] (I2, L, ab_RR, n, nc, ns) res
    refine ab_i2l d_W_joined_7 ?_
    refine ab_last d_W_joined_8 rfl rfl (by unfold vp_in; decide) ?_
    refine ab_goto (tgt := 15) d_W_joined_9 (by decide) ?_
    refine ab_iconst (v := 0) d_W_joined_15 rfl ?_
    exact ab_iret (ty := .int) d_W_joined_16 rfl rfl h
  · refine ab_callVC (me2 := mt_K_joined) (b := kx) (as := [.int v1]) (st := [.int 0, .ref ox_out]) (M2 := (I, L, ab_RR, n, nc + 1, ns + 6)) (E := "java/lang/IllegalArgumentException") (hpc := 12) (i := ab_id n 36 0) ⟨[], _, _, _, rfl, (fun z hz => by cases hz), by decide +kernel, by decide, v_693, u_700, rfl⟩ (ab_id_bl (by decide) (by decide)) (by rw [ab_id_cd (by decide)]; decide) d_W_joined_4 ce_K_joined v_1246 v_1247 v_1248 (by decide) rfl (Nat.le_of_ble_eq_true rfl) hC (Nat.le_succ _) (Nat.le_add_right _ _) l1 l2 (fun _ _ => rfl) ?_
    show ab_E w (d + 1) mt_W_joined 12 [.ref kx, .int v1, .ref ox_out, .null] [.ref (ab_id n 36 0)] (I, L, ab_RR, n + 1, nc + 1, ns + 6) res
    refine ab_astore_n (i := 3) d_W_joined_12 rfl (by decide) (Or.inr rfl) ?_
    refine ab_iconst (v := 1) d_W_joined_13 rfl ?_
    exact ab_iret (ty := .int) d_W_joined_14 rfl rfl h
theorem q_W_swap_0 {w : ab_Wd} {d n nc ns : Nat} {I : Nat → Nat → Int32} {L : Nat → Nat → Int64} {res : ab_Re} (v1 : Int32) (v2 : Int32) (hc : nc ≤ res.2.2.2.2.2.1) (hs : ns ≤ res.2.2.2.2.2.2)
    (h : ((∃ (r1 : Int32), ab_C w d mt_K_swap [.ref kx, .int v1, .int v2] (I, L, ab_RR, n, nc, ns) (.inl (some (.int r1)), (I, L, ab_RR, n, nc, ns)) ∧ (res = (.inl (some (.int 0)), (I, (ab_upL L ox_out 0 (Int32.toInt64 r1)), ab_RR, n, nc, ns)))) ∨ (ab_C w d mt_K_swap [.ref kx, .int v1, .int v2] (I, L, ab_RR, n, nc, ns) (.inr "java/util/NoSuchElementException", (I, L, ab_RR, n, nc + 1, ns + 6)) ∧ (nc + 1 ≤ res.2.2.2.2.2.1 ∧ ns + 6 ≤ res.2.2.2.2.2.2) ∧ (res = (.inl (some (.int 1)), (I, L, ab_RR, n + 1, nc + 1, ns + 6)))))) : ab_E w (d + 1) mt_W_swap 0 [.ref kx, .int v1, .int v2, .ref ox_out, .null] [] (I, L, ab_RR, n, nc, ns) res := by
  refine ab_aload_n (i := 3) d_W_swap_0 rfl rfl ?_
  refine ab_iconst (v := 0) d_W_swap_1 rfl ?_
  refine ab_aload_n (i := 0) d_W_swap_2 rfl rfl ?_
  refine ab_iload_n (i := 1) d_W_swap_3 rfl rfl ?_
  refine ab_iload_n (i := 2) d_W_swap_4 rfl rfl ?_
  rcases h with ⟨r1, hC, h⟩ | ⟨hC, ⟨l1, l2⟩, h⟩
  · refine ab_callV (me2 := mt_K_swap) (b := kx) (as := [.int v1, .int v2]) (st := [.int 0, .ref ox_out]) (rv := (some (.int r1))) (M2 := (I, L, ab_RR, n, nc, ns)) d_W_swap_5 ce_K_swap v_1266 v_1267 v_1268 (by decide) rfl (Nat.le_of_ble_eq_true rfl) hC (Nat.le_refl _) (Nat.le_refl _) hc hs (fun j h9 => by cases h9) (fun _ _ => rfl) ?_
    show ab_E w (d + 1) mt_W_swap 8 [.ref kx, .int v1, .int v2, .ref ox_out, .null] [.int r1, .int 0, .ref ox_out] (I, L, ab_RR, n, nc, ns) res
    refine ab_i2l d_W_swap_8 ?_
    refine ab_last d_W_swap_9 rfl rfl (by unfold vp_in; decide) ?_
    refine ab_goto (tgt := 17) d_W_swap_10 (by decide) ?_
    refine ab_iconst (v := 0) d_W_swap_17 rfl ?_
    exact ab_iret (ty := .int) d_W_swap_18 rfl rfl h
  · refine ab_callVC (me2 := mt_K_swap) (b := kx) (as := [.int v1, .int v2]) (st := [.int 0, .ref ox_out]) (M2 := (I, L, ab_RR, n, nc + 1, ns + 6)) (E := "java/util/NoSuchElementException") (hpc := 13) (i := ab_id n 36 0) ⟨[], _, _, _, rfl, (fun z hz => by cases hz), by decide +kernel, by decide, v_922, u_1051, rfl⟩ (ab_id_bl (by decide) (by decide)) (by rw [ab_id_cd (by decide)]; decide) d_W_swap_5 ce_K_swap v_1266 v_1267 v_1268 (by decide) rfl (Nat.le_of_ble_eq_true rfl) hC (Nat.le_succ _) (Nat.le_add_right _ _) l1 l2 (fun _ _ => rfl) ?_
    show ab_E w (d + 1) mt_W_swap 13 [.ref kx, .int v1, .int v2, .ref ox_out, .null] [.ref (ab_id n 36 0)] (I, L, ab_RR, n + 1, nc + 1, ns + 6) res
    refine ab_astore (i := 4) d_W_swap_13 (by decide) (Or.inr rfl) ?_
    refine ab_iconst (v := 1) d_W_swap_15 rfl ?_
    exact ab_iret (ty := .int) d_W_swap_16 rfl rfl h
theorem q_W_fits_0 {w : ab_Wd} {d n nc ns : Nat} {I : Nat → Nat → Int32} {L : Nat → Nat → Int64} {res : ab_Re} (v1 : Int32) (v2 : Int32) (hc : nc ≤ res.2.2.2.2.2.1) (hs : ns ≤ res.2.2.2.2.2.2)
    (h : ((∃ (r1 : Int32), ab_C w d mt_K_fits [.ref kx, .int v1, .int v2] (I, L, ab_RR, n, nc, ns) (.inl (some (.int r1)), (I, L, ab_RR, n, nc, ns)) ∧ (res = (.inl (some (.int 0)), (I, (ab_upL L ox_out 0 (Int32.toInt64 r1)), ab_RR, n, nc, ns)))) ∨ (ab_C w d mt_K_fits [.ref kx, .int v1, .int v2] (I, L, ab_RR, n, nc, ns) (.inr "java/util/NoSuchElementException", (I, L, ab_RR, n, nc + 1, ns + 6)) ∧ (nc + 1 ≤ res.2.2.2.2.2.1 ∧ ns + 6 ≤ res.2.2.2.2.2.2) ∧ (res = (.inl (some (.int 1)), (I, L, ab_RR, n + 1, nc + 1, ns + 6)))) ∨ (ab_C w d mt_K_fits [.ref kx, .int v1, .int v2] (I, L, ab_RR, n, nc, ns) (.inr "java/lang/IllegalStateException", (I, L, ab_RR, n, nc + 1, ns + 6)) ∧ (nc + 1 ≤ res.2.2.2.2.2.1 ∧ ns + 6 ≤ res.2.2.2.2.2.2) ∧ (res = (.inl (some (.int 2)), (I, L, ab_RR, n + 1, nc + 1, ns + 6)))))) : ab_E w (d + 1) mt_W_fits 0 [.ref kx, .int v1, .int v2, .ref ox_out, .null] [] (I, L, ab_RR, n, nc, ns) res := by
  refine ab_aload_n (i := 3) d_W_fits_0 rfl rfl ?_
  refine ab_iconst (v := 0) d_W_fits_1 rfl ?_
  refine ab_aload_n (i := 0) d_W_fits_2 rfl rfl ?_
  refine ab_iload_n (i := 1) d_W_fits_3 rfl rfl ?_
  refine ab_iload_n (i := 2) d_W_fits_4 rfl rfl ?_
  rcases h with ⟨r1, hC, h⟩ | ⟨hC, ⟨l1, l2⟩, h⟩ | ⟨hC, ⟨l1, l2⟩, h⟩
  · refine ab_callV (me2 := mt_K_fits) (b := kx) (as := [.int v1, .int v2]) (st := [.int 0, .ref ox_out]) (rv := (some (.int r1))) (M2 := (I, L, ab_RR, n, nc, ns)) d_W_fits_5 ce_K_fits v_1293 v_1294 v_1295 (by decide) rfl (Nat.le_of_ble_eq_true rfl) hC (Nat.le_refl _) (Nat.le_refl _) hc hs (fun j h9 => by cases h9) (fun _ _ => rfl) ?_
    show ab_E w (d + 1) mt_W_fits 8 [.ref kx, .int v1, .int v2, .ref ox_out, .null] [.int r1, .int 0, .ref ox_out] (I, L, ab_RR, n, nc, ns) res
    refine ab_i2l d_W_fits_8 ?_
    refine ab_last d_W_fits_9 rfl rfl (by unfold vp_in; decide) ?_
    refine ab_goto (tgt := 21) d_W_fits_10 (by decide) ?_
    refine ab_iconst (v := 0) d_W_fits_21 rfl ?_
    exact ab_iret (ty := .int) d_W_fits_22 rfl rfl h
  · refine ab_callVC (me2 := mt_K_fits) (b := kx) (as := [.int v1, .int v2]) (st := [.int 0, .ref ox_out]) (M2 := (I, L, ab_RR, n, nc + 1, ns + 6)) (E := "java/util/NoSuchElementException") (hpc := 13) (i := ab_id n 36 0) ⟨[], _, _, _, rfl, (fun z hz => by cases hz), by decide +kernel, by decide, v_922, u_1051, rfl⟩ (ab_id_bl (by decide) (by decide)) (by rw [ab_id_cd (by decide)]; decide) d_W_fits_5 ce_K_fits v_1293 v_1294 v_1295 (by decide) rfl (Nat.le_of_ble_eq_true rfl) hC (Nat.le_succ _) (Nat.le_add_right _ _) l1 l2 (fun _ _ => rfl) ?_
    show ab_E w (d + 1) mt_W_fits 13 [.ref kx, .int v1, .int v2, .ref ox_out, .null] [.ref (ab_id n 36 0)] (I, L, ab_RR, n + 1, nc + 1, ns + 6) res
    refine ab_astore (i := 4) d_W_fits_13 (by decide) (Or.inr rfl) ?_
    refine ab_iconst (v := 1) d_W_fits_15 rfl ?_
    exact ab_iret (ty := .int) d_W_fits_16 rfl rfl h
  · refine ab_callVC (me2 := mt_K_fits) (b := kx) (as := [.int v1, .int v2]) (st := [.int 0, .ref ox_out]) (M2 := (I, L, ab_RR, n, nc + 1, ns + 6)) (E := "java/lang/IllegalStateException") (hpc := 17) (i := ab_id n 36 0) ⟨[_], _, _, _, rfl, (fun z hz => by cases List.mem_singleton.mp hz; exact Or.inr ⟨by decide, _, v_922, by decide +kernel⟩), by decide +kernel, by decide, v_1292, u_1303, rfl⟩ (ab_id_bl (by decide) (by decide)) (by rw [ab_id_cd (by decide)]; decide) d_W_fits_5 ce_K_fits v_1293 v_1294 v_1295 (by decide) rfl (Nat.le_of_ble_eq_true rfl) hC (Nat.le_succ _) (Nat.le_add_right _ _) l1 l2 (fun _ _ => rfl) ?_
    show ab_E w (d + 1) mt_W_fits 17 [.ref kx, .int v1, .int v2, .ref ox_out, .null] [.ref (ab_id n 36 0)] (I, L, ab_RR, n + 1, nc + 1, ns + 6) res
    refine ab_astore (i := 4) d_W_fits_17 (by decide) (Or.inr rfl) ?_
    refine ab_iconst (v := 2) d_W_fits_19 rfl ?_
    exact ab_iret (ty := .int) d_W_fits_20 rfl rfl h
theorem q_W_look_0 {w : ab_Wd} {d n nc ns : Nat} {I : Nat → Nat → Int32} {L : Nat → Nat → Int64} {res : ab_Re} (v1 : Int32) (hc : nc ≤ res.2.2.2.2.2.1) (hs : ns ≤ res.2.2.2.2.2.2)
    (h : ((∃ (r1 : Int32), ab_C w d mt_K_look [.ref kx, .int v1] (I, L, ab_RR, n, nc, ns) (.inl (some (.int r1)), (I, L, ab_RR, n, nc, ns)) ∧ (res = (.inl (some (.int 0)), (I, (ab_upL L ox_out 0 (Int32.toInt64 r1)), ab_RR, n, nc, ns)))) ∨ (ab_C w d mt_K_look [.ref kx, .int v1] (I, L, ab_RR, n, nc, ns) (.inr "java/util/NoSuchElementException", (I, L, ab_RR, n, nc + 1, ns + 6)) ∧ (nc + 1 ≤ res.2.2.2.2.2.1 ∧ ns + 6 ≤ res.2.2.2.2.2.2) ∧ (res = (.inl (some (.int 1)), (I, L, ab_RR, n + 1, nc + 1, ns + 6)))) ∨ (ab_C w d mt_K_look [.ref kx, .int v1] (I, L, ab_RR, n, nc, ns) (.inr "java/lang/IllegalStateException", (I, L, ab_RR, n, nc + 1, ns + 6)) ∧ (nc + 1 ≤ res.2.2.2.2.2.1 ∧ ns + 6 ≤ res.2.2.2.2.2.2) ∧ (res = (.inl (some (.int 2)), (I, L, ab_RR, n + 1, nc + 1, ns + 6)))))) : ab_E w (d + 1) mt_W_look 0 [.ref kx, .int v1, .ref ox_out, .null] [] (I, L, ab_RR, n, nc, ns) res := by
  refine ab_aload_n (i := 2) d_W_look_0 rfl rfl ?_
  refine ab_iconst (v := 0) d_W_look_1 rfl ?_
  refine ab_aload_n (i := 0) d_W_look_2 rfl rfl ?_
  refine ab_iload_n (i := 1) d_W_look_3 rfl rfl ?_
  rcases h with ⟨r1, hC, h⟩ | ⟨hC, ⟨l1, l2⟩, h⟩ | ⟨hC, ⟨l1, l2⟩, h⟩
  · refine ab_callV (me2 := mt_K_look) (b := kx) (as := [.int v1]) (st := [.int 0, .ref ox_out]) (rv := (some (.int r1))) (M2 := (I, L, ab_RR, n, nc, ns)) d_W_look_4 ce_K_look v_1335 v_1336 v_1337 (by decide) rfl (Nat.le_of_ble_eq_true rfl) hC (Nat.le_refl _) (Nat.le_refl _) hc hs (fun j h9 => by cases h9) (fun _ _ => rfl) ?_
    show ab_E w (d + 1) mt_W_look 7 [.ref kx, .int v1, .ref ox_out, .null] [.int r1, .int 0, .ref ox_out] (I, L, ab_RR, n, nc, ns) res
    refine ab_i2l d_W_look_7 ?_
    refine ab_last d_W_look_8 rfl rfl (by unfold vp_in; decide) ?_
    refine ab_goto (tgt := 18) d_W_look_9 (by decide) ?_
    refine ab_iconst (v := 0) d_W_look_18 rfl ?_
    exact ab_iret (ty := .int) d_W_look_19 rfl rfl h
  · refine ab_callVC (me2 := mt_K_look) (b := kx) (as := [.int v1]) (st := [.int 0, .ref ox_out]) (M2 := (I, L, ab_RR, n, nc + 1, ns + 6)) (E := "java/util/NoSuchElementException") (hpc := 12) (i := ab_id n 36 0) ⟨[], _, _, _, rfl, (fun z hz => by cases hz), by decide +kernel, by decide, v_922, u_1051, rfl⟩ (ab_id_bl (by decide) (by decide)) (by rw [ab_id_cd (by decide)]; decide) d_W_look_4 ce_K_look v_1335 v_1336 v_1337 (by decide) rfl (Nat.le_of_ble_eq_true rfl) hC (Nat.le_succ _) (Nat.le_add_right _ _) l1 l2 (fun _ _ => rfl) ?_
    show ab_E w (d + 1) mt_W_look 12 [.ref kx, .int v1, .ref ox_out, .null] [.ref (ab_id n 36 0)] (I, L, ab_RR, n + 1, nc + 1, ns + 6) res
    refine ab_astore_n (i := 3) d_W_look_12 rfl (by decide) (Or.inr rfl) ?_
    refine ab_iconst (v := 1) d_W_look_13 rfl ?_
    exact ab_iret (ty := .int) d_W_look_14 rfl rfl h
  · refine ab_callVC (me2 := mt_K_look) (b := kx) (as := [.int v1]) (st := [.int 0, .ref ox_out]) (M2 := (I, L, ab_RR, n, nc + 1, ns + 6)) (E := "java/lang/IllegalStateException") (hpc := 15) (i := ab_id n 36 0) ⟨[_], _, _, _, rfl, (fun z hz => by cases List.mem_singleton.mp hz; exact Or.inr ⟨by decide, _, v_922, by decide +kernel⟩), by decide +kernel, by decide, v_1292, u_1303, rfl⟩ (ab_id_bl (by decide) (by decide)) (by rw [ab_id_cd (by decide)]; decide) d_W_look_4 ce_K_look v_1335 v_1336 v_1337 (by decide) rfl (Nat.le_of_ble_eq_true rfl) hC (Nat.le_succ _) (Nat.le_add_right _ _) l1 l2 (fun _ _ => rfl) ?_
    show ab_E w (d + 1) mt_W_look 15 [.ref kx, .int v1, .ref ox_out, .null] [.ref (ab_id n 36 0)] (I, L, ab_RR, n + 1, nc + 1, ns + 6) res
    refine ab_astore_n (i := 3) d_W_look_15 rfl (by decide) (Or.inr rfl) ?_
    refine ab_iconst (v := 2) d_W_look_16 rfl ?_
    exact ab_iret (ty := .int) d_W_look_17 rfl rfl h
theorem q_W_years_0 {w : ab_Wd} {d n nc ns : Nat} {I : Nat → Nat → Int32} {L : Nat → Nat → Int64} {res : ab_Re} (v1 : Int32) (v2 : Int32) (v3 : Int32) (hc : nc ≤ res.2.2.2.2.2.1) (hs : ns ≤ res.2.2.2.2.2.2)
    (h : ((∃ (r1 : Int32) (I2 : Nat → Nat → Int32), ab_C w d mt_K_years [.ref kx, .int v1, .int v2, .int v3] (I, L, ab_RR, n, nc, ns) (.inl (some (.int r1)), (I2, L, ab_RR, n, nc, ns)) ∧ (res = (.inl (some (.int 0)), (I2, (ab_upL L ox_out 0 (Int32.toInt64 r1)), ab_RR, n, nc, ns)))) ∨ (ab_C w d mt_K_years [.ref kx, .int v1, .int v2, .int v3] (I, L, ab_RR, n, nc, ns) (.inr "java/util/NoSuchElementException", (I, L, ab_RR, n, nc + 1, ns + 6)) ∧ (nc + 1 ≤ res.2.2.2.2.2.1 ∧ ns + 6 ≤ res.2.2.2.2.2.2) ∧ (res = (.inl (some (.int 1)), (I, L, ab_RR, n + 1, nc + 1, ns + 6)))) ∨ (ab_C w d mt_K_years [.ref kx, .int v1, .int v2, .int v3] (I, L, ab_RR, n, nc, ns) (.inr "java/lang/IllegalArgumentException", (I, L, ab_RR, n, nc + 1, ns + 6)) ∧ (nc + 1 ≤ res.2.2.2.2.2.1 ∧ ns + 6 ≤ res.2.2.2.2.2.2) ∧ (res = (.inl (some (.int 2)), (I, L, ab_RR, n + 1, nc + 1, ns + 6)))))) : ab_E w (d + 1) mt_W_years 0 [.ref kx, .int v1, .int v2, .int v3, .ref ox_out, .null] [] (I, L, ab_RR, n, nc, ns) res := by
  refine ab_aload (i := 4) d_W_years_0 rfl ?_
  refine ab_iconst (v := 0) d_W_years_2 rfl ?_
  refine ab_aload_n (i := 0) d_W_years_3 rfl rfl ?_
  refine ab_iload_n (i := 1) d_W_years_4 rfl rfl ?_
  refine ab_iload_n (i := 2) d_W_years_5 rfl rfl ?_
  refine ab_iload_n (i := 3) d_W_years_6 rfl rfl ?_
  rcases h with ⟨r1, I2, hC, h⟩ | ⟨hC, ⟨l1, l2⟩, h⟩ | ⟨hC, ⟨l1, l2⟩, h⟩
  · refine ab_callV (me2 := mt_K_years) (b := kx) (as := [.int v1, .int v2, .int v3]) (st := [.int 0, .ref ox_out]) (rv := (some (.int r1))) (M2 := (I2, L, ab_RR, n, nc, ns)) d_W_years_7 ce_K_years v_1342 v_1343 v_1344 (by decide) rfl (Nat.le_of_ble_eq_true rfl) hC (Nat.le_refl _) (Nat.le_refl _) hc hs (fun j h9 => by cases h9) (fun _ _ => rfl) ?_
    show ab_E w (d + 1) mt_W_years 10 [.ref kx, .int v1, .int v2, .int v3, .ref ox_out, .null] [.int r1, .int 0, .ref ox_out] (I2, L, ab_RR, n, nc, ns) res
    refine ab_i2l d_W_years_10 ?_
    refine ab_last d_W_years_11 rfl rfl (by unfold vp_in; decide) ?_
    refine ab_goto (tgt := 23) d_W_years_12 (by decide) ?_
    refine ab_iconst (v := 0) d_W_years_23 rfl ?_
    exact ab_iret (ty := .int) d_W_years_24 rfl rfl h
  · refine ab_callVC (me2 := mt_K_years) (b := kx) (as := [.int v1, .int v2, .int v3]) (st := [.int 0, .ref ox_out]) (M2 := (I, L, ab_RR, n, nc + 1, ns + 6)) (E := "java/util/NoSuchElementException") (hpc := 15) (i := ab_id n 36 0) ⟨[], _, _, _, rfl, (fun z hz => by cases hz), by decide +kernel, by decide, v_922, u_1051, rfl⟩ (ab_id_bl (by decide) (by decide)) (by rw [ab_id_cd (by decide)]; decide) d_W_years_7 ce_K_years v_1342 v_1343 v_1344 (by decide) rfl (Nat.le_of_ble_eq_true rfl) hC (Nat.le_succ _) (Nat.le_add_right _ _) l1 l2 (fun _ _ => rfl) ?_
    show ab_E w (d + 1) mt_W_years 15 [.ref kx, .int v1, .int v2, .int v3, .ref ox_out, .null] [.ref (ab_id n 36 0)] (I, L, ab_RR, n + 1, nc + 1, ns + 6) res
    refine ab_astore (i := 5) d_W_years_15 (by decide) (Or.inr rfl) ?_
    refine ab_iconst (v := 1) d_W_years_17 rfl ?_
    exact ab_iret (ty := .int) d_W_years_18 rfl rfl h
  · refine ab_callVC (me2 := mt_K_years) (b := kx) (as := [.int v1, .int v2, .int v3]) (st := [.int 0, .ref ox_out]) (M2 := (I, L, ab_RR, n, nc + 1, ns + 6)) (E := "java/lang/IllegalArgumentException") (hpc := 19) (i := ab_id n 36 0) ⟨[_], _, _, _, rfl, (fun z hz => by cases List.mem_singleton.mp hz; exact Or.inr ⟨by decide, _, v_922, by decide +kernel⟩), by decide +kernel, by decide, v_693, u_700, rfl⟩ (ab_id_bl (by decide) (by decide)) (by rw [ab_id_cd (by decide)]; decide) d_W_years_7 ce_K_years v_1342 v_1343 v_1344 (by decide) rfl (Nat.le_of_ble_eq_true rfl) hC (Nat.le_succ _) (Nat.le_add_right _ _) l1 l2 (fun _ _ => rfl) ?_
    show ab_E w (d + 1) mt_W_years 19 [.ref kx, .int v1, .int v2, .int v3, .ref ox_out, .null] [.ref (ab_id n 36 0)] (I, L, ab_RR, n + 1, nc + 1, ns + 6) res
    refine ab_astore (i := 5) d_W_years_19 (by decide) (Or.inr rfl) ?_
    refine ab_iconst (v := 2) d_W_years_21 rfl ?_
    exact ab_iret (ty := .int) d_W_years_22 rfl rfl h
