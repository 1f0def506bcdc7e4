/-! THE LAW'S CASES: a call of the class, the same of the model, the answers are one -/
/-- luck -/
theorem lc_15 {C : zCx} {τ : Nat → ClassId} {ι : Nat → Nat} {kc ks L i : Nat} {xs : Nat → Int32} (hC : zOK C τ room_1 RL cL_law 4) (hX : zSc C ι L xs) (hkc : kc ≤ 600000) (hks : ks ≤ 7302250) (hL : L ≤ 3072) (hi : i + 6 ≤ L) {S : zS} {G : zG} (hc : CG S G) (hm : MG S G) (hg : GI G) (kk : lk C τ ι kc ks i) : zR C τ ι 4 kc ks 569 [(0, .ref 260), (1, .ref 0), (2, .ref 245), (3, .int (nI i))] [] (zcells S) := by
  refine zr_aload_n hC dL_law_569 rfl ?_
  refine zr_aload_n hC dL_law_570 rfl ?_
  refine zr_iload_n hC dL_law_571 rfl ?_
  refine zk_iconst hC dL_law_572 (v := nI 1) (by decide +kernel) ?_
  refine zn_iadd hC dL_law_573 (v := nI (i + 1)) (nI_add i 1) ?_
  refine zl_ld hC hX (i := i + 1) (by omega) hL dL_law_574 ?_
  refine zr_aload_n hC dL_law_575 rfl ?_
  refine zr_iload_n hC dL_law_576 rfl ?_
  refine zk_iconst hC dL_law_577 (v := nI 2) (by decide +kernel) ?_
  refine zn_iadd hC dL_law_578 (v := nI (i + 2)) (nI_add i 2) ?_
  refine zl_ld hC hX (i := i + 2) (by omega) hL dL_law_579 ?_
  refine zr_aload_n hC dL_law_580 rfl ?_
  refine zr_iload_n hC dL_law_581 rfl ?_
  refine zk_iconst hC dL_law_582 (v := nI 3) (by decide +kernel) ?_
  refine zn_iadd hC dL_law_583 (v := nI (i + 3)) (nI_add i 3) ?_
  refine zl_ld hC hX (i := i + 3) (by omega) hL dL_law_584 ?_
  refine zl_callV hC (b := 0) [_, _, _] [] dL_law_585 ml_L_76 mtX8_luck tX8_luck (by decide) hkc hks rfl rfl (by decide) (by decide +kernel) (Nat.le_of_ble_eq_true rfl) rfl ?_
  refine ⟨G, _, _, _, rfl, hc, hg, fun S1 hc1 h1 => ?_⟩
  dsimp only [Option.toList, List.nil_append, List.cons_append]
  refine zr_aload_n hC dL_law_588 rfl ?_
  refine zr_aload_n hC dL_law_589 rfl ?_
  refine zr_iload_n hC dL_law_590 rfl ?_
  refine zk_iconst hC dL_law_591 (v := nI 1) (by decide +kernel) ?_
  refine zn_iadd hC dL_law_592 (v := nI (i + 1)) (nI_add i 1) ?_
  refine zl_ld hC hX (i := i + 1) (by omega) hL dL_law_593 ?_
  refine zr_aload_n hC dL_law_594 rfl ?_
  refine zr_iload_n hC dL_law_595 rfl ?_
  refine zk_iconst hC dL_law_596 (v := nI 2) (by decide +kernel) ?_
  refine zn_iadd hC dL_law_597 (v := nI (i + 2)) (nI_add i 2) ?_
  refine zl_ld hC hX (i := i + 2) (by omega) hL dL_law_598 ?_
  refine zr_aload_n hC dL_law_599 rfl ?_
  refine zr_iload_n hC dL_law_600 rfl ?_
  refine zk_iconst hC dL_law_601 (v := nI 3) (by decide +kernel) ?_
  refine zn_iadd hC dL_law_602 (v := nI (i + 3)) (nI_add i 3) ?_
  refine zl_ld hC hX (i := i + 3) (by omega) hL dL_law_603 ?_
  refine zl_callV hC (b := 245) [_, _, _] [_] dL_law_604 ml_L_80 mtX9_luck tX9_luck (by decide) hkc hks rfl rfl (by decide) (by decide +kernel) (Nat.le_of_ble_eq_true rfl) rfl ?_
  refine ⟨G, _, _, _, rfl, hm.fc h1, hg, fun S2 hm2 h2 => ?_⟩
  dsimp only [Option.toList, List.nil_append, List.cons_append]
  refine zr_icmp_eq hC dL_law_607 (tgt := 1061) (by decide) (fun _ => ?_) (fun c => absurd rfl c)
  exact kk S2 G (hc1.fm hg h2) hm2 hg
/-- type -/
theorem lc_16 {C : zCx} {τ : Nat → ClassId} {ι : Nat → Nat} {kc ks L i : Nat} {xs : Nat → Int32} (hC : zOK C τ room_1 RL cL_law 4) (hX : zSc C ι L xs) (hkc : kc ≤ 600000) (hks : ks ≤ 7302250) (hL : L ≤ 3072) (hi : i + 6 ≤ L) {S : zS} {G : zG} (hc : CG S G) (hm : MG S G) (hg : GI G) (kk : lk C τ ι kc ks i) : zR C τ ι 4 kc ks 612 [(0, .ref 260), (1, .ref 0), (2, .ref 245), (3, .int (nI i))] [] (zcells S) := by
  refine zr_aload_n hC dL_law_612 rfl ?_
  refine zr_aload_n hC dL_law_613 rfl ?_
  refine zr_iload_n hC dL_law_614 rfl ?_
  refine zk_iconst hC dL_law_615 (v := nI 1) (by decide +kernel) ?_
  refine zn_iadd hC dL_law_616 (v := nI (i + 1)) (nI_add i 1) ?_
  refine zl_ld hC hX (i := i + 1) (by omega) hL dL_law_617 ?_
  refine zl_callV hC (b := 0) [_] [] dL_law_618 ml_L_81 mtX8_type tX8_type (by decide) hkc hks rfl rfl (by decide) (by decide +kernel) (Nat.le_of_ble_eq_true rfl) rfl ?_
  refine ⟨G, _, rfl, hc, hg, fun S1 hc1 h1 => ?_⟩
  dsimp only [Option.toList, List.nil_append, List.cons_append]
  refine zr_aload_n hC dL_law_621 rfl ?_
  refine zr_aload_n hC dL_law_622 rfl ?_
  refine zr_iload_n hC dL_law_623 rfl ?_
  refine zk_iconst hC dL_law_624 (v := nI 1) (by decide +kernel) ?_
  refine zn_iadd hC dL_law_625 (v := nI (i + 1)) (nI_add i 1) ?_
  refine zl_ld hC hX (i := i + 1) (by omega) hL dL_law_626 ?_
  refine zl_callV hC (b := 245) [_] [_] dL_law_627 ml_L_84 mtX9_type tX9_type (by decide) hkc hks rfl rfl (by decide) (by decide +kernel) (Nat.le_of_ble_eq_true rfl) rfl ?_
  refine ⟨G, _, rfl, hm.fc h1, hg, fun S2 hm2 h2 => ?_⟩
  dsimp only [Option.toList, List.nil_append, List.cons_append]
  refine zr_icmp_eq hC dL_law_630 (tgt := 1061) (by decide) (fun _ => ?_) (fun c => absurd rfl c)
  exact kk S2 _ (hc1.fm (gi_type hg _) h2) hm2 (gi_type hg _)
/-- read -/
theorem lc_17 {C : zCx} {τ : Nat → ClassId} {ι : Nat → Nat} {kc ks L i : Nat} {xs : Nat → Int32} (hC : zOK C τ room_1 RL cL_law 4) (hX : zSc C ι L xs) (hkc : kc ≤ 600000) (hks : ks ≤ 7302250) (hL : L ≤ 3072) (hi : i + 6 ≤ L) {S : zS} {G : zG} (hc : CG S G) (hm : MG S G) (hg : GI G) (kk : lk C τ ι kc ks i) : zR C τ ι 4 kc ks 635 [(0, .ref 260), (1, .ref 0), (2, .ref 245), (3, .int (nI i))] [] (zcells S) := by
  refine zr_aload_n hC dL_law_635 rfl ?_
  refine zl_callV hC (b := 0) [] [] dL_law_636 ml_L_85 mtX8_read tX8_read (by decide) hkc hks rfl rfl (by decide) (by decide +kernel) (Nat.le_of_ble_eq_true rfl) rfl ?_
  refine ⟨G, rfl, hc, hg, fun S1 hc1 h1 => ?_⟩
  dsimp only [Option.toList, List.nil_append, List.cons_append]
  refine zr_aload_n hC dL_law_639 rfl ?_
  refine zl_callV hC (b := 245) [] [_] dL_law_640 ml_L_88 mtX9_read tX9_read (by decide) hkc hks rfl rfl (by decide) (by decide +kernel) (Nat.le_of_ble_eq_true rfl) rfl ?_
  refine ⟨G, rfl, hm.fc h1, hg, fun S2 hm2 h2 => ?_⟩
  dsimp only [Option.toList, List.nil_append, List.cons_append]
  refine zr_icmp_eq hC dL_law_643 (tgt := 1061) (by decide) (fun _ => ?_) (fun c => absurd rfl c)
  exact kk S2 _ (hc1.fm (gi_read hg) h2) hm2 (gi_read hg)
/-- drift -/
theorem lc_18 {C : zCx} {τ : Nat → ClassId} {ι : Nat → Nat} {kc ks L i : Nat} {xs : Nat → Int32} (hC : zOK C τ room_1 RL cL_law 4) (hX : zSc C ι L xs) (hkc : kc ≤ 600000) (hks : ks ≤ 7302250) (hL : L ≤ 3072) (hi : i + 6 ≤ L) {S : zS} {G : zG} (hc : CG S G) (hm : MG S G) (hg : GI G) (kk : lk C τ ι kc ks i) : zR C τ ι 4 kc ks 648 [(0, .ref 260), (1, .ref 0), (2, .ref 245), (3, .int (nI i))] [] (zcells S) := by
  refine zr_aload_n hC dL_law_648 rfl ?_
  refine zr_aload_n hC dL_law_649 rfl ?_
  refine zr_iload_n hC dL_law_650 rfl ?_
  refine zk_iconst hC dL_law_651 (v := nI 1) (by decide +kernel) ?_
  refine zn_iadd hC dL_law_652 (v := nI (i + 1)) (nI_add i 1) ?_
  refine zl_ld hC hX (i := i + 1) (by omega) hL dL_law_653 ?_
  refine zl_callV hC (b := 0) [_] [] dL_law_654 ml_L_89 mtX8_drift tX8_drift (by decide) hkc hks rfl rfl (by decide) (by decide +kernel) (Nat.le_of_ble_eq_true rfl) rfl ?_
  refine ⟨G, _, rfl, hc, hg, fun S1 hc1 h1 => ?_⟩
  dsimp only [Option.toList, List.nil_append, List.cons_append]
  refine zr_aload_n hC dL_law_657 rfl ?_
  refine zr_aload_n hC dL_law_658 rfl ?_
  refine zr_iload_n hC dL_law_659 rfl ?_
  refine zk_iconst hC dL_law_660 (v := nI 1) (by decide +kernel) ?_
  refine zn_iadd hC dL_law_661 (v := nI (i + 1)) (nI_add i 1) ?_
  refine zl_ld hC hX (i := i + 1) (by omega) hL dL_law_662 ?_
  refine zl_callV hC (b := 245) [_] [_] dL_law_663 ml_L_92 mtX9_drift tX9_drift (by decide) hkc hks rfl rfl (by decide) (by decide +kernel) (Nat.le_of_ble_eq_true rfl) rfl ?_
  refine ⟨G, _, rfl, hm.fc h1, hg, fun S2 hm2 h2 => ?_⟩
  dsimp only [Option.toList, List.nil_append, List.cons_append]
  refine zr_icmp_eq hC dL_law_666 (tgt := 1061) (by decide) (fun _ => ?_) (fun c => absurd rfl c)
  exact kk S2 _ (hc1.fm (gi_drift hg _) h2) hm2 (gi_drift hg _)
/-- undo -/
theorem lc_19 {C : zCx} {τ : Nat → ClassId} {ι : Nat → Nat} {kc ks L i : Nat} {xs : Nat → Int32} (hC : zOK C τ room_1 RL cL_law 4) (hX : zSc C ι L xs) (hkc : kc ≤ 600000) (hks : ks ≤ 7302250) (hL : L ≤ 3072) (hi : i + 6 ≤ L) {S : zS} {G : zG} (hc : CG S G) (hm : MG S G) (hg : GI G) (kk : lk C τ ι kc ks i) : zR C τ ι 4 kc ks 671 [(0, .ref 260), (1, .ref 0), (2, .ref 245), (3, .int (nI i))] [] (zcells S) := by
  refine zr_aload_n hC dL_law_671 rfl ?_
  refine zl_callV hC (b := 0) [] [] dL_law_672 ml_L_93 mtX8_undo tX8_undo (by decide) hkc hks rfl rfl (by decide) (by decide +kernel) (Nat.le_of_ble_eq_true rfl) rfl ?_
  refine ⟨G, rfl, hc, hg, fun S1 hc1 h1 => ?_⟩
  dsimp only [Option.toList, List.nil_append, List.cons_append]
  refine zr_aload_n hC dL_law_675 rfl ?_
  refine zl_callV hC (b := 245) [] [_] dL_law_676 ml_L_96 mtX9_undo tX9_undo (by decide) hkc hks rfl rfl (by decide) (by decide +kernel) (Nat.le_of_ble_eq_true rfl) rfl ?_
  refine ⟨G, rfl, hm.fc h1, hg, fun S2 hm2 h2 => ?_⟩
  dsimp only [Option.toList, List.nil_append, List.cons_append]
  refine zr_icmp_eq hC dL_law_679 (tgt := 1061) (by decide) (fun _ => ?_) (fun c => absurd rfl c)
  exact kk S2 _ (hc1.fm (gi_undo hg) h2) hm2 (gi_undo hg)
/-- seed -/
theorem lc_20 {C : zCx} {τ : Nat → ClassId} {ι : Nat → Nat} {kc ks L i : Nat} {xs : Nat → Int32} (hC : zOK C τ room_1 RL cL_law 4) (hX : zSc C ι L xs) (hkc : kc ≤ 600000) (hks : ks ≤ 7302250) (hL : L ≤ 3072) (hi : i + 6 ≤ L) {S : zS} {G : zG} (hc : CG S G) (hm : MG S G) (hg : GI G) (kk : lk C τ ι kc ks i) : zR C τ ι 4 kc ks 684 [(0, .ref 260), (1, .ref 0), (2, .ref 245), (3, .int (nI i))] [] (zcells S) := by
  refine zr_aload_n hC dL_law_684 rfl ?_
  refine zr_aload_n hC dL_law_685 rfl ?_
  refine zr_iload_n hC dL_law_686 rfl ?_
  refine zk_iconst hC dL_law_687 (v := nI 1) (by decide +kernel) ?_
  refine zn_iadd hC dL_law_688 (v := nI (i + 1)) (nI_add i 1) ?_
  refine zl_ld hC hX (i := i + 1) (by omega) hL dL_law_689 ?_
  refine zl_callV hC (b := 0) [_] [] dL_law_690 ml_L_97 mtX8_seed tX8_seed (by decide) hkc hks rfl rfl (by decide) (by decide +kernel) (Nat.le_of_ble_eq_true rfl) rfl ?_
  refine ⟨G, _, rfl, hc, hg, fun S1 hc1 h1 => ?_⟩
  dsimp only [Option.toList, List.nil_append, List.cons_append]
  refine zr_aload_n hC dL_law_693 rfl ?_
  refine zr_aload_n hC dL_law_694 rfl ?_
  refine zr_iload_n hC dL_law_695 rfl ?_
  refine zk_iconst hC dL_law_696 (v := nI 1) (by decide +kernel) ?_
  refine zn_iadd hC dL_law_697 (v := nI (i + 1)) (nI_add i 1) ?_
  refine zl_ld hC hX (i := i + 1) (by omega) hL dL_law_698 ?_
  refine zl_callV hC (b := 245) [_] [_] dL_law_699 ml_L_100 mtX9_seed tX9_seed (by decide) hkc hks rfl rfl (by decide) (by decide +kernel) (Nat.le_of_ble_eq_true rfl) rfl ?_
  refine ⟨G, _, rfl, hm.fc h1, hg, fun S2 hm2 h2 => ?_⟩
  dsimp only [Option.toList, List.nil_append, List.cons_append]
  refine zr_icmp_eq hC dL_law_702 (tgt := 1061) (by decide) (fun _ => ?_) (fun c => absurd rfl c)
  exact kk S2 _ (hc1.fm (gi_seed hg _) h2) hm2 (gi_seed hg _)
/-- image -/
theorem lc_21 {C : zCx} {τ : Nat → ClassId} {ι : Nat → Nat} {kc ks L i : Nat} {xs : Nat → Int32} (hC : zOK C τ room_1 RL cL_law 4) (hX : zSc C ι L xs) (hkc : kc ≤ 600000) (hks : ks ≤ 7302250) (hL : L ≤ 3072) (hi : i + 6 ≤ L) {S : zS} {G : zG} (hc : CG S G) (hm : MG S G) (hg : GI G) (kk : lk C τ ι kc ks i) : zR C τ ι 4 kc ks 707 [(0, .ref 260), (1, .ref 0), (2, .ref 245), (3, .int (nI i))] [] (zcells S) := by
  refine zr_aload_n hC dL_law_707 rfl ?_
  refine zl_callV hC (b := 0) [] [] dL_law_708 ml_L_101 mtX8_image tX8_image (by decide) hkc hks rfl rfl (by decide) (by decide +kernel) (Nat.le_of_ble_eq_true rfl) rfl ?_
  refine ⟨G, rfl, hc, hg, fun S1 hc1 h1 => ?_⟩
  dsimp only [Option.toList, List.nil_append, List.cons_append]
  refine zr_aload_n hC dL_law_711 rfl ?_
  refine zl_callV hC (b := 245) [] [_] dL_law_712 ml_L_104 mtX9_image tX9_image (by decide) hkc hks rfl rfl (by decide) (by decide +kernel) (Nat.le_of_ble_eq_true rfl) rfl ?_
  refine ⟨G, rfl, hm.fc h1, hg, fun S2 hm2 h2 => ?_⟩
  dsimp only [Option.toList, List.nil_append, List.cons_append]
  refine zr_icmp_eq hC dL_law_715 (tgt := 1061) (by decide) (fun _ => ?_) (fun c => absurd rfl c)
  exact kk S2 _ (hc1.fm (gi_image hg) h2) hm2 (gi_image hg)
/-- restore -/
theorem lc_22 {C : zCx} {τ : Nat → ClassId} {ι : Nat → Nat} {kc ks L i : Nat} {xs : Nat → Int32} (hC : zOK C τ room_1 RL cL_law 4) (hX : zSc C ι L xs) (hkc : kc ≤ 600000) (hks : ks ≤ 7302250) (hL : L ≤ 3072) (hi : i + 6 ≤ L) {S : zS} {G : zG} (hc : CG S G) (hm : MG S G) (hg : GI G) (kk : lk C τ ι kc ks i) : zR C τ ι 4 kc ks 720 [(0, .ref 260), (1, .ref 0), (2, .ref 245), (3, .int (nI i))] [] (zcells S) := by
  refine zr_aload_n hC dL_law_720 rfl ?_
  refine zl_callV hC (b := 0) [] [] dL_law_721 ml_L_105 mtX8_restore tX8_restore (by decide) hkc hks rfl rfl (by decide) (by decide +kernel) (Nat.le_of_ble_eq_true rfl) rfl ?_
  refine ⟨G, rfl, hc, hg, fun S1 hc1 h1 => ?_⟩
  dsimp only [Option.toList, List.nil_append, List.cons_append]
  refine zr_aload_n hC dL_law_724 rfl ?_
  refine zl_callV hC (b := 245) [] [_] dL_law_725 ml_L_108 mtX9_restore tX9_restore (by decide) hkc hks rfl rfl (by decide) (by decide +kernel) (Nat.le_of_ble_eq_true rfl) rfl ?_
  refine ⟨G, rfl, hm.fc h1, hg, fun S2 hm2 h2 => ?_⟩
  dsimp only [Option.toList, List.nil_append, List.cons_append]
  refine zr_icmp_eq hC dL_law_728 (tgt := 1061) (by decide) (fun _ => ?_) (fun c => absurd rfl c)
  exact kk S2 _ (hc1.fm (gi_restore hg) h2) hm2 (gi_restore hg)
/-- got -/
theorem lc_23 {C : zCx} {τ : Nat → ClassId} {ι : Nat → Nat} {kc ks L i : Nat} {xs : Nat → Int32} (hC : zOK C τ room_1 RL cL_law 4) (hX : zSc C ι L xs) (hkc : kc ≤ 600000) (hks : ks ≤ 7302250) (hL : L ≤ 3072) (hi : i + 6 ≤ L) {S : zS} {G : zG} (hc : CG S G) (hm : MG S G) (hg : GI G) (kk : lk C τ ι kc ks i) : zR C τ ι 4 kc ks 733 [(0, .ref 260), (1, .ref 0), (2, .ref 245), (3, .int (nI i))] [] (zcells S) := by
  refine zr_aload_n hC dL_law_733 rfl ?_
  refine zr_aload_n hC dL_law_734 rfl ?_
  refine zr_iload_n hC dL_law_735 rfl ?_
  refine zk_iconst hC dL_law_736 (v := nI 1) (by decide +kernel) ?_
  refine zn_iadd hC dL_law_737 (v := nI (i + 1)) (nI_add i 1) ?_
  refine zl_ld hC hX (i := i + 1) (by omega) hL dL_law_738 ?_
  refine zr_aload_n hC dL_law_739 rfl ?_
  refine zr_iload_n hC dL_law_740 rfl ?_
  refine zk_iconst hC dL_law_741 (v := nI 2) (by decide +kernel) ?_
  refine zn_iadd hC dL_law_742 (v := nI (i + 2)) (nI_add i 2) ?_
  refine zl_ld hC hX (i := i + 2) (by omega) hL dL_law_743 ?_
  refine zr_aload_n hC dL_law_744 rfl ?_
  refine zr_iload_n hC dL_law_745 rfl ?_
  refine zk_iconst hC dL_law_746 (v := nI 3) (by decide +kernel) ?_
  refine zn_iadd hC dL_law_747 (v := nI (i + 3)) (nI_add i 3) ?_
  refine zl_ld hC hX (i := i + 3) (by omega) hL dL_law_748 ?_
  refine zr_aload_n hC dL_law_749 rfl ?_
  refine zr_iload_n hC dL_law_750 rfl ?_
  refine zk_iconst hC dL_law_751 (v := nI 4) (by decide +kernel) ?_
  refine zn_iadd hC dL_law_752 (v := nI (i + 4)) (nI_add i 4) ?_
  refine zl_ld hC hX (i := i + 4) (by omega) hL dL_law_753 ?_
  refine zr_aload_n hC dL_law_754 rfl ?_
  refine zr_iload_n hC dL_law_755 rfl ?_
  refine zk_iconst hC dL_law_756 (v := nI 5) (by decide +kernel) ?_
  refine zn_iadd hC dL_law_757 (v := nI (i + 5)) (nI_add i 5) ?_
  refine zl_ld hC hX (i := i + 5) (by omega) hL dL_law_758 ?_
  refine zl_callV hC (b := 0) [_, _, _, _, _] [] dL_law_759 ml_L_109 mtX8_got tX8_got (by decide) hkc hks rfl rfl (by decide) (by decide +kernel) (Nat.le_of_ble_eq_true rfl) rfl ?_
  refine ⟨G, _, _, _, _, _, rfl, hc, hg, fun S1 hc1 h1 => ?_⟩
  dsimp only [Option.toList, List.nil_append, List.cons_append]
  refine zr_aload_n hC dL_law_762 rfl ?_
  refine zr_aload_n hC dL_law_763 rfl ?_
  refine zr_iload_n hC dL_law_764 rfl ?_
  refine zk_iconst hC dL_law_765 (v := nI 1) (by decide +kernel) ?_
  refine zn_iadd hC dL_law_766 (v := nI (i + 1)) (nI_add i 1) ?_
  refine zl_ld hC hX (i := i + 1) (by omega) hL dL_law_767 ?_
  refine zr_aload_n hC dL_law_768 rfl ?_
  refine zr_iload_n hC dL_law_769 rfl ?_
  refine zk_iconst hC dL_law_770 (v := nI 2) (by decide +kernel) ?_
  refine zn_iadd hC dL_law_771 (v := nI (i + 2)) (nI_add i 2) ?_
  refine zl_ld hC hX (i := i + 2) (by omega) hL dL_law_772 ?_
  refine zr_aload_n hC dL_law_773 rfl ?_
  refine zr_iload_n hC dL_law_774 rfl ?_
  refine zk_iconst hC dL_law_775 (v := nI 3) (by decide +kernel) ?_
  refine zn_iadd hC dL_law_776 (v := nI (i + 3)) (nI_add i 3) ?_
  refine zl_ld hC hX (i := i + 3) (by omega) hL dL_law_777 ?_
  refine zr_aload_n hC dL_law_778 rfl ?_
  refine zr_iload_n hC dL_law_779 rfl ?_
  refine zk_iconst hC dL_law_780 (v := nI 4) (by decide +kernel) ?_
  refine zn_iadd hC dL_law_781 (v := nI (i + 4)) (nI_add i 4) ?_
  refine zl_ld hC hX (i := i + 4) (by omega) hL dL_law_782 ?_
  refine zr_aload_n hC dL_law_783 rfl ?_
  refine zr_iload_n hC dL_law_784 rfl ?_
  refine zk_iconst hC dL_law_785 (v := nI 5) (by decide +kernel) ?_
  refine zn_iadd hC dL_law_786 (v := nI (i + 5)) (nI_add i 5) ?_
  refine zl_ld hC hX (i := i + 5) (by omega) hL dL_law_787 ?_
  refine zl_callV hC (b := 245) [_, _, _, _, _] [_] dL_law_788 ml_L_113 mtX9_got tX9_got (by decide) hkc hks rfl rfl (by decide) (by decide +kernel) (Nat.le_of_ble_eq_true rfl) rfl ?_
  refine ⟨G, _, _, _, _, _, rfl, hm.fc h1, hg, fun S2 hm2 h2 => ?_⟩
  dsimp only [Option.toList, List.nil_append, List.cons_append]
  refine zr_icmp_eq hC dL_law_791 (tgt := 1061) (by decide) (fun _ => ?_) (fun c => absurd rfl c)
  exact kk S2 G (hc1.fm hg h2) hm2 hg
/-- film -/
theorem lc_24 {C : zCx} {τ : Nat → ClassId} {ι : Nat → Nat} {kc ks L i : Nat} {xs : Nat → Int32} (hC : zOK C τ room_1 RL cL_law 4) (hX : zSc C ι L xs) (hkc : kc ≤ 600000) (hks : ks ≤ 7302250) (hL : L ≤ 3072) (hi : i + 6 ≤ L) {S : zS} {G : zG} (hc : CG S G) (hm : MG S G) (hg : GI G) (kk : lk C τ ι kc ks i) : zR C τ ι 4 kc ks 796 [(0, .ref 260), (1, .ref 0), (2, .ref 245), (3, .int (nI i))] [] (zcells S) := by
  refine zr_aload_n hC dL_law_796 rfl ?_
  refine zr_aload_n hC dL_law_797 rfl ?_
  refine zr_iload_n hC dL_law_798 rfl ?_
  refine zk_iconst hC dL_law_799 (v := nI 1) (by decide +kernel) ?_
  refine zn_iadd hC dL_law_800 (v := nI (i + 1)) (nI_add i 1) ?_
  refine zl_ld hC hX (i := i + 1) (by omega) hL dL_law_801 ?_
  refine zr_aload_n hC dL_law_802 rfl ?_
  refine zr_iload_n hC dL_law_803 rfl ?_
  refine zk_iconst hC dL_law_804 (v := nI 2) (by decide +kernel) ?_
  refine zn_iadd hC dL_law_805 (v := nI (i + 2)) (nI_add i 2) ?_
  refine zl_ld hC hX (i := i + 2) (by omega) hL dL_law_806 ?_
  refine zr_aload_n hC dL_law_807 rfl ?_
  refine zr_iload_n hC dL_law_808 rfl ?_
  refine zk_iconst hC dL_law_809 (v := nI 3) (by decide +kernel) ?_
  refine zn_iadd hC dL_law_810 (v := nI (i + 3)) (nI_add i 3) ?_
  refine zl_ld hC hX (i := i + 3) (by omega) hL dL_law_811 ?_
  refine zr_aload_n hC dL_law_812 rfl ?_
  refine zr_iload_n hC dL_law_813 rfl ?_
  refine zk_iconst hC dL_law_814 (v := nI 4) (by decide +kernel) ?_
  refine zn_iadd hC dL_law_815 (v := nI (i + 4)) (nI_add i 4) ?_
  refine zl_ld hC hX (i := i + 4) (by omega) hL dL_law_816 ?_
  refine zl_callV hC (b := 0) [_, _, _, _] [] dL_law_817 ml_L_114 mtX8_film tX8_film (by decide) hkc hks rfl rfl (by decide) (by decide +kernel) (Nat.le_of_ble_eq_true rfl) rfl ?_
  refine ⟨G, _, _, _, _, rfl, hc, hg, fun S1 hc1 h1 => ?_⟩
  dsimp only [Option.toList, List.nil_append, List.cons_append]
  refine zr_aload_n hC dL_law_820 rfl ?_
  refine zr_aload_n hC dL_law_821 rfl ?_
  refine zr_iload_n hC dL_law_822 rfl ?_
  refine zk_iconst hC dL_law_823 (v := nI 1) (by decide +kernel) ?_
  refine zn_iadd hC dL_law_824 (v := nI (i + 1)) (nI_add i 1) ?_
  refine zl_ld hC hX (i := i + 1) (by omega) hL dL_law_825 ?_
  refine zr_aload_n hC dL_law_826 rfl ?_
  refine zr_iload_n hC dL_law_827 rfl ?_
  refine zk_iconst hC dL_law_828 (v := nI 2) (by decide +kernel) ?_
  refine zn_iadd hC dL_law_829 (v := nI (i + 2)) (nI_add i 2) ?_
  refine zl_ld hC hX (i := i + 2) (by omega) hL dL_law_830 ?_
  refine zr_aload_n hC dL_law_831 rfl ?_
  refine zr_iload_n hC dL_law_832 rfl ?_
  refine zk_iconst hC dL_law_833 (v := nI 3) (by decide +kernel) ?_
  refine zn_iadd hC dL_law_834 (v := nI (i + 3)) (nI_add i 3) ?_
  refine zl_ld hC hX (i := i + 3) (by omega) hL dL_law_835 ?_
  refine zr_aload_n hC dL_law_836 rfl ?_
  refine zr_iload_n hC dL_law_837 rfl ?_
  refine zk_iconst hC dL_law_838 (v := nI 4) (by decide +kernel) ?_
  refine zn_iadd hC dL_law_839 (v := nI (i + 4)) (nI_add i 4) ?_
  refine zl_ld hC hX (i := i + 4) (by omega) hL dL_law_840 ?_
  refine zl_callV hC (b := 245) [_, _, _, _] [_] dL_law_841 ml_L_118 mtX9_film tX9_film (by decide) hkc hks rfl rfl (by decide) (by decide +kernel) (Nat.le_of_ble_eq_true rfl) rfl ?_
  refine ⟨G, _, _, _, _, rfl, hm.fc h1, hg, fun S2 hm2 h2 => ?_⟩
  dsimp only [Option.toList, List.nil_append, List.cons_append]
  refine zr_icmp_eq hC dL_law_844 (tgt := 1061) (by decide) (fun _ => ?_) (fun c => absurd rfl c)
  exact kk S2 _ (hc1.fm (gi_film hg _ _ _ _) h2) hm2 (gi_film hg _ _ _ _)
/-- sheet -/
theorem lc_25 {C : zCx} {τ : Nat → ClassId} {ι : Nat → Nat} {kc ks L i : Nat} {xs : Nat → Int32} (hC : zOK C τ room_1 RL cL_law 4) (hX : zSc C ι L xs) (hkc : kc ≤ 600000) (hks : ks ≤ 7302250) (hL : L ≤ 3072) (hi : i + 6 ≤ L) {S : zS} {G : zG} (hc : CG S G) (hm : MG S G) (hg : GI G) (kk : lk C τ ι kc ks i) : zR C τ ι 4 kc ks 849 [(0, .ref 260), (1, .ref 0), (2, .ref 245), (3, .int (nI i))] [] (zcells S) := by
  refine zr_aload_n hC dL_law_849 rfl ?_
  refine zr_aload_n hC dL_law_850 rfl ?_
  refine zr_iload_n hC dL_law_851 rfl ?_
  refine zk_iconst hC dL_law_852 (v := nI 1) (by decide +kernel) ?_
  refine zn_iadd hC dL_law_853 (v := nI (i + 1)) (nI_add i 1) ?_
  refine zl_ld hC hX (i := i + 1) (by omega) hL dL_law_854 ?_
  refine zr_aload_n hC dL_law_855 rfl ?_
  refine zr_iload_n hC dL_law_856 rfl ?_
  refine zk_iconst hC dL_law_857 (v := nI 2) (by decide +kernel) ?_
  refine zn_iadd hC dL_law_858 (v := nI (i + 2)) (nI_add i 2) ?_
  refine zl_ld hC hX (i := i + 2) (by omega) hL dL_law_859 ?_
  refine zr_aload_n hC dL_law_860 rfl ?_
  refine zr_iload_n hC dL_law_861 rfl ?_
  refine zk_iconst hC dL_law_862 (v := nI 3) (by decide +kernel) ?_
  refine zn_iadd hC dL_law_863 (v := nI (i + 3)) (nI_add i 3) ?_
  refine zl_ld hC hX (i := i + 3) (by omega) hL dL_law_864 ?_
  refine zl_callV hC (b := 0) [_, _, _] [] dL_law_865 ml_L_119 mtX8_sheet tX8_sheet (by decide) hkc hks rfl rfl (by decide) (by decide +kernel) (Nat.le_of_ble_eq_true rfl) rfl ?_
  refine ⟨G, _, _, _, rfl, hc, hg, fun S1 hc1 h1 => ?_⟩
  dsimp only [Option.toList, List.nil_append, List.cons_append]
  refine zr_aload_n hC dL_law_868 rfl ?_
  refine zr_aload_n hC dL_law_869 rfl ?_
  refine zr_iload_n hC dL_law_870 rfl ?_
  refine zk_iconst hC dL_law_871 (v := nI 1) (by decide +kernel) ?_
  refine zn_iadd hC dL_law_872 (v := nI (i + 1)) (nI_add i 1) ?_
  refine zl_ld hC hX (i := i + 1) (by omega) hL dL_law_873 ?_
  refine zr_aload_n hC dL_law_874 rfl ?_
  refine zr_iload_n hC dL_law_875 rfl ?_
  refine zk_iconst hC dL_law_876 (v := nI 2) (by decide +kernel) ?_
  refine zn_iadd hC dL_law_877 (v := nI (i + 2)) (nI_add i 2) ?_
  refine zl_ld hC hX (i := i + 2) (by omega) hL dL_law_878 ?_
  refine zr_aload_n hC dL_law_879 rfl ?_
  refine zr_iload_n hC dL_law_880 rfl ?_
  refine zk_iconst hC dL_law_881 (v := nI 3) (by decide +kernel) ?_
  refine zn_iadd hC dL_law_882 (v := nI (i + 3)) (nI_add i 3) ?_
  refine zl_ld hC hX (i := i + 3) (by omega) hL dL_law_883 ?_
  refine zl_callV hC (b := 245) [_, _, _] [_] dL_law_884 ml_L_122 mtX9_sheet tX9_sheet (by decide) hkc hks rfl rfl (by decide) (by decide +kernel) (Nat.le_of_ble_eq_true rfl) rfl ?_
  refine ⟨G, _, _, _, rfl, hm.fc h1, hg, fun S2 hm2 h2 => ?_⟩
  dsimp only [Option.toList, List.nil_append, List.cons_append]
  refine zr_icmp_eq hC dL_law_887 (tgt := 1061) (by decide) (fun _ => ?_) (fun c => absurd rfl c)
  exact kk S2 _ (hc1.fm (gi_sheet hg _ _ _) h2) hm2 (gi_sheet hg _ _ _)
/-- drop -/
theorem lc_26 {C : zCx} {τ : Nat → ClassId} {ι : Nat → Nat} {kc ks L i : Nat} {xs : Nat → Int32} (hC : zOK C τ room_1 RL cL_law 4) (hX : zSc C ι L xs) (hkc : kc ≤ 600000) (hks : ks ≤ 7302250) (hL : L ≤ 3072) (hi : i + 6 ≤ L) {S : zS} {G : zG} (hc : CG S G) (hm : MG S G) (hg : GI G) (kk : lk C τ ι kc ks i) : zR C τ ι 4 kc ks 892 [(0, .ref 260), (1, .ref 0), (2, .ref 245), (3, .int (nI i))] [] (zcells S) := by
  refine zr_aload_n hC dL_law_892 rfl ?_
  refine zr_aload_n hC dL_law_893 rfl ?_
  refine zr_iload_n hC dL_law_894 rfl ?_
  refine zk_iconst hC dL_law_895 (v := nI 1) (by decide +kernel) ?_
  refine zn_iadd hC dL_law_896 (v := nI (i + 1)) (nI_add i 1) ?_
  refine zl_ld hC hX (i := i + 1) (by omega) hL dL_law_897 ?_
  refine zl_callV hC (b := 0) [_] [] dL_law_898 ml_L_123 mtX8_drop tX8_drop (by decide) hkc hks rfl rfl (by decide) (by decide +kernel) (Nat.le_of_ble_eq_true rfl) rfl ?_
  refine ⟨G, _, rfl, hc, hg, fun S1 hc1 h1 => ?_⟩
  dsimp only [Option.toList, List.nil_append, List.cons_append]
  refine zr_aload_n hC dL_law_901 rfl ?_
  refine zr_aload_n hC dL_law_902 rfl ?_
  refine zr_iload_n hC dL_law_903 rfl ?_
  refine zk_iconst hC dL_law_904 (v := nI 1) (by decide +kernel) ?_
  refine zn_iadd hC dL_law_905 (v := nI (i + 1)) (nI_add i 1) ?_
  refine zl_ld hC hX (i := i + 1) (by omega) hL dL_law_906 ?_
  refine zl_callV hC (b := 245) [_] [_] dL_law_907 ml_L_126 mtX9_drop tX9_drop (by decide) hkc hks rfl rfl (by decide) (by decide +kernel) (Nat.le_of_ble_eq_true rfl) rfl ?_
  refine ⟨G, _, rfl, hm.fc h1, hg, fun S2 hm2 h2 => ?_⟩
  dsimp only [Option.toList, List.nil_append, List.cons_append]
  refine zr_icmp_eq hC dL_law_910 (tgt := 1061) (by decide) (fun _ => ?_) (fun c => absurd rfl c)
  exact kk S2 _ (hc1.fm (gi_drop hg _) h2) hm2 (gi_drop hg _)
/-- item -/
theorem lc_27 {C : zCx} {τ : Nat → ClassId} {ι : Nat → Nat} {kc ks L i : Nat} {xs : Nat → Int32} (hC : zOK C τ room_1 RL cL_law 4) (hX : zSc C ι L xs) (hkc : kc ≤ 600000) (hks : ks ≤ 7302250) (hL : L ≤ 3072) (hi : i + 6 ≤ L) {S : zS} {G : zG} (hc : CG S G) (hm : MG S G) (hg : GI G) (kk : lk C τ ι kc ks i) : zR C τ ι 4 kc ks 915 [(0, .ref 260), (1, .ref 0), (2, .ref 245), (3, .int (nI i))] [] (zcells S) := by
  refine zr_aload_n hC dL_law_915 rfl ?_
  refine zr_aload_n hC dL_law_916 rfl ?_
  refine zr_iload_n hC dL_law_917 rfl ?_
  refine zk_iconst hC dL_law_918 (v := nI 1) (by decide +kernel) ?_
  refine zn_iadd hC dL_law_919 (v := nI (i + 1)) (nI_add i 1) ?_
  refine zl_ld hC hX (i := i + 1) (by omega) hL dL_law_920 ?_
  refine zr_aload_n hC dL_law_921 rfl ?_
  refine zr_iload_n hC dL_law_922 rfl ?_
  refine zk_iconst hC dL_law_923 (v := nI 2) (by decide +kernel) ?_
  refine zn_iadd hC dL_law_924 (v := nI (i + 2)) (nI_add i 2) ?_
  refine zl_ld hC hX (i := i + 2) (by omega) hL dL_law_925 ?_
  refine zr_aload_n hC dL_law_926 rfl ?_
  refine zr_iload_n hC dL_law_927 rfl ?_
  refine zk_iconst hC dL_law_928 (v := nI 3) (by decide +kernel) ?_
  refine zn_iadd hC dL_law_929 (v := nI (i + 3)) (nI_add i 3) ?_
  refine zl_ld hC hX (i := i + 3) (by omega) hL dL_law_930 ?_
  refine zr_aload_n hC dL_law_931 rfl ?_
  refine zr_iload_n hC dL_law_932 rfl ?_
  refine zk_iconst hC dL_law_933 (v := nI 4) (by decide +kernel) ?_
  refine zn_iadd hC dL_law_934 (v := nI (i + 4)) (nI_add i 4) ?_
  refine zl_ld hC hX (i := i + 4) (by omega) hL dL_law_935 ?_
  refine zr_i2l hC dL_law_936 ?_
  refine zr_bipush hC dL_law_937 ?_
  refine zr_lshl hC dL_law_939 ?_
  refine zr_aload_n hC dL_law_940 rfl ?_
  refine zr_iload_n hC dL_law_941 rfl ?_
  refine zk_iconst hC dL_law_942 (v := nI 5) (by decide +kernel) ?_
  refine zn_iadd hC dL_law_943 (v := nI (i + 5)) (nI_add i 5) ?_
  refine zl_ld hC hX (i := i + 5) (by omega) hL dL_law_944 ?_
  refine zr_i2l hC dL_law_945 ?_
  refine zr_ldc2 hC dL_law_946 kl_L_127 ?_
  refine zr_land hC dL_law_949 ?_
  refine zr_lor hC dL_law_950 ?_
  refine zl_callV hC (b := 0) [_, _, _, _] [] dL_law_951 ml_L_129 mtX8_item tX8_item (by decide) hkc hks rfl rfl (by decide) (by decide +kernel) (Nat.le_of_ble_eq_true rfl) rfl ?_
  refine ⟨G, _, _, _, _, rfl, hc, hg, fun S1 hc1 h1 => ?_⟩
  dsimp only [Option.toList, List.nil_append, List.cons_append]
  refine zr_aload_n hC dL_law_954 rfl ?_
  refine zr_aload_n hC dL_law_955 rfl ?_
  refine zr_iload_n hC dL_law_956 rfl ?_
  refine zk_iconst hC dL_law_957 (v := nI 1) (by decide +kernel) ?_
  refine zn_iadd hC dL_law_958 (v := nI (i + 1)) (nI_add i 1) ?_
  refine zl_ld hC hX (i := i + 1) (by omega) hL dL_law_959 ?_
  refine zr_aload_n hC dL_law_960 rfl ?_
  refine zr_iload_n hC dL_law_961 rfl ?_
  refine zk_iconst hC dL_law_962 (v := nI 2) (by decide +kernel) ?_
  refine zn_iadd hC dL_law_963 (v := nI (i + 2)) (nI_add i 2) ?_
  refine zl_ld hC hX (i := i + 2) (by omega) hL dL_law_964 ?_
  refine zr_aload_n hC dL_law_965 rfl ?_
  refine zr_iload_n hC dL_law_966 rfl ?_
  refine zk_iconst hC dL_law_967 (v := nI 3) (by decide +kernel) ?_
  refine zn_iadd hC dL_law_968 (v := nI (i + 3)) (nI_add i 3) ?_
  refine zl_ld hC hX (i := i + 3) (by omega) hL dL_law_969 ?_
  refine zr_aload_n hC dL_law_970 rfl ?_
  refine zr_iload_n hC dL_law_971 rfl ?_
  refine zk_iconst hC dL_law_972 (v := nI 4) (by decide +kernel) ?_
  refine zn_iadd hC dL_law_973 (v := nI (i + 4)) (nI_add i 4) ?_
  refine zl_ld hC hX (i := i + 4) (by omega) hL dL_law_974 ?_
  refine zr_i2l hC dL_law_975 ?_
  refine zr_bipush hC dL_law_976 ?_
  refine zr_lshl hC dL_law_978 ?_
  refine zr_aload_n hC dL_law_979 rfl ?_
  refine zr_iload_n hC dL_law_980 rfl ?_
  refine zk_iconst hC dL_law_981 (v := nI 5) (by decide +kernel) ?_
  refine zn_iadd hC dL_law_982 (v := nI (i + 5)) (nI_add i 5) ?_
  refine zl_ld hC hX (i := i + 5) (by omega) hL dL_law_983 ?_
  refine zr_i2l hC dL_law_984 ?_
  refine zr_ldc2 hC dL_law_985 kl_L_127 ?_
  refine zr_land hC dL_law_988 ?_
  refine zr_lor hC dL_law_989 ?_
  refine zl_callV hC (b := 245) [_, _, _, _] [_] dL_law_990 ml_L_133 mtX9_item tX9_item (by decide) hkc hks rfl rfl (by decide) (by decide +kernel) (Nat.le_of_ble_eq_true rfl) rfl ?_
  refine ⟨G, _, _, _, _, rfl, hm.fc h1, hg, fun S2 hm2 h2 => ?_⟩
  dsimp only [Option.toList, List.nil_append, List.cons_append]
  refine zr_icmp_eq hC dL_law_993 (tgt := 1061) (by decide) (fun _ => ?_) (fun c => absurd rfl c)
  exact kk S2 _ (hc1.fm (gi_item hg _ _ _ _) h2) hm2 (gi_item hg _ _ _ _)
/-- copy -/
theorem lc_28 {C : zCx} {τ : Nat → ClassId} {ι : Nat → Nat} {kc ks L i : Nat} {xs : Nat → Int32} (hC : zOK C τ room_1 RL cL_law 4) (hX : zSc C ι L xs) (hkc : kc ≤ 600000) (hks : ks ≤ 7302250) (hL : L ≤ 3072) (hi : i + 6 ≤ L) {S : zS} {G : zG} (hc : CG S G) (hm : MG S G) (hg : GI G) (kk : lk C τ ι kc ks i) : zR C τ ι 4 kc ks 998 [(0, .ref 260), (1, .ref 0), (2, .ref 245), (3, .int (nI i))] [] (zcells S) := by
  refine zr_aload_n hC dL_law_998 rfl ?_
  refine zr_aload_n hC dL_law_999 rfl ?_
  refine zr_iload_n hC dL_law_1000 rfl ?_
  refine zk_iconst hC dL_law_1001 (v := nI 1) (by decide +kernel) ?_
  refine zn_iadd hC dL_law_1002 (v := nI (i + 1)) (nI_add i 1) ?_
  refine zl_ld hC hX (i := i + 1) (by omega) hL dL_law_1003 ?_
  refine zr_aload_n hC dL_law_1004 rfl ?_
  refine zr_iload_n hC dL_law_1005 rfl ?_
  refine zk_iconst hC dL_law_1006 (v := nI 2) (by decide +kernel) ?_
  refine zn_iadd hC dL_law_1007 (v := nI (i + 2)) (nI_add i 2) ?_
  refine zl_ld hC hX (i := i + 2) (by omega) hL dL_law_1008 ?_
  refine zr_aload_n hC dL_law_1009 rfl ?_
  refine zr_iload_n hC dL_law_1010 rfl ?_
  refine zk_iconst hC dL_law_1011 (v := nI 3) (by decide +kernel) ?_
  refine zn_iadd hC dL_law_1012 (v := nI (i + 3)) (nI_add i 3) ?_
  refine zl_ld hC hX (i := i + 3) (by omega) hL dL_law_1013 ?_
  refine zr_aload_n hC dL_law_1014 rfl ?_
  refine zr_iload_n hC dL_law_1015 rfl ?_
  refine zk_iconst hC dL_law_1016 (v := nI 4) (by decide +kernel) ?_
  refine zn_iadd hC dL_law_1017 (v := nI (i + 4)) (nI_add i 4) ?_
  refine zl_ld hC hX (i := i + 4) (by omega) hL dL_law_1018 ?_
  refine zr_aload_n hC dL_law_1019 rfl ?_
  refine zr_iload_n hC dL_law_1020 rfl ?_
  refine zk_iconst hC dL_law_1021 (v := nI 5) (by decide +kernel) ?_
  refine zn_iadd hC dL_law_1022 (v := nI (i + 5)) (nI_add i 5) ?_
  refine zl_ld hC hX (i := i + 5) (by omega) hL dL_law_1023 ?_
  refine zl_callV hC (b := 0) [_, _, _, _, _] [] dL_law_1024 ml_L_134 mtX8_copy tX8_copy (by decide) hkc hks rfl rfl (by decide) (by decide +kernel) (Nat.le_of_ble_eq_true rfl) rfl ?_
  refine ⟨G, _, _, _, _, _, rfl, hc, hg, fun S1 hc1 h1 => ?_⟩
  dsimp only [Option.toList, List.nil_append, List.cons_append]
  refine zr_aload_n hC dL_law_1027 rfl ?_
  refine zr_aload_n hC dL_law_1028 rfl ?_
  refine zr_iload_n hC dL_law_1029 rfl ?_
  refine zk_iconst hC dL_law_1030 (v := nI 1) (by decide +kernel) ?_
  refine zn_iadd hC dL_law_1031 (v := nI (i + 1)) (nI_add i 1) ?_
  refine zl_ld hC hX (i := i + 1) (by omega) hL dL_law_1032 ?_
  refine zr_aload_n hC dL_law_1033 rfl ?_
  refine zr_iload_n hC dL_law_1034 rfl ?_
  refine zk_iconst hC dL_law_1035 (v := nI 2) (by decide +kernel) ?_
  refine zn_iadd hC dL_law_1036 (v := nI (i + 2)) (nI_add i 2) ?_
  refine zl_ld hC hX (i := i + 2) (by omega) hL dL_law_1037 ?_
  refine zr_aload_n hC dL_law_1038 rfl ?_
  refine zr_iload_n hC dL_law_1039 rfl ?_
  refine zk_iconst hC dL_law_1040 (v := nI 3) (by decide +kernel) ?_
  refine zn_iadd hC dL_law_1041 (v := nI (i + 3)) (nI_add i 3) ?_
  refine zl_ld hC hX (i := i + 3) (by omega) hL dL_law_1042 ?_
  refine zr_aload_n hC dL_law_1043 rfl ?_
  refine zr_iload_n hC dL_law_1044 rfl ?_
  refine zk_iconst hC dL_law_1045 (v := nI 4) (by decide +kernel) ?_
  refine zn_iadd hC dL_law_1046 (v := nI (i + 4)) (nI_add i 4) ?_
  refine zl_ld hC hX (i := i + 4) (by omega) hL dL_law_1047 ?_
  refine zr_aload_n hC dL_law_1048 rfl ?_
  refine zr_iload_n hC dL_law_1049 rfl ?_
  refine zk_iconst hC dL_law_1050 (v := nI 5) (by decide +kernel) ?_
  refine zn_iadd hC dL_law_1051 (v := nI (i + 5)) (nI_add i 5) ?_
  refine zl_ld hC hX (i := i + 5) (by omega) hL dL_law_1052 ?_
  refine zl_callV hC (b := 245) [_, _, _, _, _] [_] dL_law_1053 ml_L_137 mtX9_copy tX9_copy (by decide) hkc hks rfl rfl (by decide) (by decide +kernel) (Nat.le_of_ble_eq_true rfl) rfl ?_
  refine ⟨G, _, _, _, _, _, rfl, hm.fc h1, hg, fun S2 hm2 h2 => ?_⟩
  dsimp only [Option.toList, List.nil_append, List.cons_append]
  refine zr_icmp_eq hC dL_law_1056 (tgt := 1061) (by decide) (fun _ => ?_) (fun c => absurd rfl c)
  exact kk S2 _ (hc1.fm (gi_copy hg _ _ _ _ _) h2) hm2 (gi_copy hg _ _ _ _ _)
