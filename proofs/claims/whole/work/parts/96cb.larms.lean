set_option maxHeartbeats 1000000
set_option maxRecDepth 100000
theorem la_burn {C : zC} {cs : Nat × Nat} {b L i n : Nat} {xs : Nat → Int32} (E : zEl C) (hc : zSc C b L xs) (hi : i + 6 ≤ L) (hL : L ≤ 3072) (hn : n ≤ 512) {I : Nat → Nat → Int32} {J : Nat → Nat → Int64} {Rr : Nat → Nat → Option Nat} {D : zD} (hI : INV n I J Rr D) (h1 : cs.1 + 27 ≤ 600000) (h2 : cs.2 + 794 ≤ 7302249) (kk : ∀ S2, INVs (n + 1) S2 → zB C (cs.1 + 27, cs.2 + 794) 1159 (lvl C b i) [] S2) : zB C cs 495 (lvl C b i) [] (I, J, Rr, D) := by
  by_cases hz : xs (i + 1) = 0
  · obtain ⟨r, S1, S2, k1, k2, hI2⟩ := arm_burn (by omega) hI (a1 := 0) (a2 := xs (i + 2))
    refine zb_aload_n E dl_495 2 rfl rfl ?_
    refine la_arg E hc hi hL 1 (by decide) (kz := 1) rfl dl_496 dl_497 dl_498 dl_499 dl_500 ?_
    refine zb_if_eq E dl_501 (tgt := 508) rfl (fun _ => ?_) (fun h => absurd hz h)
    refine zb_iconst E dl_508 (v := 0) rfl ?_
    refine la_arg E hc hi hL 2 (by decide) (kz := 2) rfl dl_509 dl_510 dl_511 dl_512 dl_513 ?_
    refine zb_cVi E [.int (0), .int (xs (i + 2))] 0 zy_X11_burn zw_506 (by decide) (zF_0 _ _ _ _) rfl (k1 _ _) ⟨Nat.le_of_ble_eq_true rfl, Nat.le_of_ble_eq_true rfl, by show _ ≤ 600000; (try dsimp only); omega, by show _ ≤ 7302249; (try dsimp only); omega⟩ rfl rfl (by first | decide | simp [Value.category]) dl_514 rfl ?_
    refine zb_aload_n E dl_517 3 rfl rfl ?_
    refine la_arg E hc hi hL 1 (by decide) (kz := 1) rfl dl_518 dl_519 dl_520 dl_521 dl_522 ?_
    refine zb_if_eq E dl_523 (tgt := 530) rfl (fun _ => ?_) (fun h => absurd hz h)
    refine zb_iconst E dl_530 (v := 0) rfl ?_
    refine la_arg E hc hi hL 2 (by decide) (kz := 2) rfl dl_531 dl_532 dl_533 dl_534 dl_535 ?_
    refine zb_cVi E [.int (0), .int (xs (i + 2))] 128 zy_X12_burn zw_1493 (by decide) (zF_128 _ _ _ _) rfl (k2 _ _) ⟨Nat.le_of_ble_eq_true rfl, Nat.le_of_ble_eq_true rfl, by show _ ≤ 600000; (try dsimp only); omega, by show _ ≤ 7302249; (try dsimp only); omega⟩ rfl rfl (by first | decide | simp [Value.category]) dl_536 rfl ?_
    refine zb_icmp_eq E dl_539 (tgt := 1159) rfl (fun _ => ?_) (fun h => absurd rfl h)
    exact zb_wide (by (try dsimp only); omega) (by (try dsimp only); omega) (kk _ hI2)
  · obtain ⟨r, S1, S2, k1, k2, hI2⟩ := arm_burn (by omega) hI (a1 := 1) (a2 := xs (i + 2))
    refine zb_aload_n E dl_495 2 rfl rfl ?_
    refine la_arg E hc hi hL 1 (by decide) (kz := 1) rfl dl_496 dl_497 dl_498 dl_499 dl_500 ?_
    refine zb_if_eq E dl_501 (tgt := 508) rfl (fun h => absurd h hz) (fun _ => ?_)
    refine zb_iconst E dl_504 (v := 1) rfl ?_
    refine zb_goto E dl_505 (tgt := 509) rfl ?_
    refine la_arg E hc hi hL 2 (by decide) (kz := 2) rfl dl_509 dl_510 dl_511 dl_512 dl_513 ?_
    refine zb_cVi E [.int (1), .int (xs (i + 2))] 0 zy_X11_burn zw_506 (by decide) (zF_0 _ _ _ _) rfl (k1 _ _) ⟨Nat.le_of_ble_eq_true rfl, Nat.le_of_ble_eq_true rfl, by show _ ≤ 600000; (try dsimp only); omega, by show _ ≤ 7302249; (try dsimp only); omega⟩ rfl rfl (by first | decide | simp [Value.category]) dl_514 rfl ?_
    refine zb_aload_n E dl_517 3 rfl rfl ?_
    refine la_arg E hc hi hL 1 (by decide) (kz := 1) rfl dl_518 dl_519 dl_520 dl_521 dl_522 ?_
    refine zb_if_eq E dl_523 (tgt := 530) rfl (fun h => absurd h hz) (fun _ => ?_)
    refine zb_iconst E dl_526 (v := 1) rfl ?_
    refine zb_goto E dl_527 (tgt := 531) rfl ?_
    refine la_arg E hc hi hL 2 (by decide) (kz := 2) rfl dl_531 dl_532 dl_533 dl_534 dl_535 ?_
    refine zb_cVi E [.int (1), .int (xs (i + 2))] 128 zy_X12_burn zw_1493 (by decide) (zF_128 _ _ _ _) rfl (k2 _ _) ⟨Nat.le_of_ble_eq_true rfl, Nat.le_of_ble_eq_true rfl, by show _ ≤ 600000; (try dsimp only); omega, by show _ ≤ 7302249; (try dsimp only); omega⟩ rfl rfl (by first | decide | simp [Value.category]) dl_536 rfl ?_
    refine zb_icmp_eq E dl_539 (tgt := 1159) rfl (fun _ => ?_) (fun h => absurd rfl h)
    exact zb_wide (by (try dsimp only); omega) (by (try dsimp only); omega) (kk _ hI2)
theorem la_sum {C : zC} {cs : Nat × Nat} {b L i n : Nat} {xs : Nat → Int32} (E : zEl C) (hc : zSc C b L xs) (hi : i + 6 ≤ L) (hL : L ≤ 3072) (hn : n ≤ 512) {I : Nat → Nat → Int32} {J : Nat → Nat → Int64} {Rr : Nat → Nat → Option Nat} {D : zD} (hI : INV n I J Rr D) (h1 : cs.1 + 27 ≤ 600000) (h2 : cs.2 + 794 ≤ 7302249) (kk : ∀ S2, INVs (n + 1) S2 → zB C (cs.1 + 27, cs.2 + 794) 1159 (lvl C b i) [] S2) : zB C cs 544 (lvl C b i) [] (I, J, Rr, D) := by
  by_cases hz : xs (i + 1) = 0
  · obtain ⟨r, S1, S2, k1, k2, hI2⟩ := arm_sum (by omega) hI (a1 := 0) (a2 := xs (i + 2))
    refine zb_aload_n E dl_544 2 rfl rfl ?_
    refine la_arg E hc hi hL 1 (by decide) (kz := 1) rfl dl_545 dl_546 dl_547 dl_548 dl_549 ?_
    refine zb_if_eq E dl_550 (tgt := 557) rfl (fun _ => ?_) (fun h => absurd hz h)
    refine zb_iconst E dl_557 (v := 0) rfl ?_
    refine la_arg E hc hi hL 2 (by decide) (kz := 2) rfl dl_558 dl_559 dl_560 dl_561 dl_562 ?_
    refine zb_cVi E [.int (0), .int (xs (i + 2))] 0 zy_X11_sum zw_518 (by decide) (zF_0 _ _ _ _) rfl (k1 _ _) ⟨Nat.le_of_ble_eq_true rfl, Nat.le_of_ble_eq_true rfl, by show _ ≤ 600000; (try dsimp only); omega, by show _ ≤ 7302249; (try dsimp only); omega⟩ rfl rfl (by first | decide | simp [Value.category]) dl_563 rfl ?_
    refine zb_aload_n E dl_566 3 rfl rfl ?_
    refine la_arg E hc hi hL 1 (by decide) (kz := 1) rfl dl_567 dl_568 dl_569 dl_570 dl_571 ?_
    refine zb_if_eq E dl_572 (tgt := 579) rfl (fun _ => ?_) (fun h => absurd hz h)
    refine zb_iconst E dl_579 (v := 0) rfl ?_
    refine la_arg E hc hi hL 2 (by decide) (kz := 2) rfl dl_580 dl_581 dl_582 dl_583 dl_584 ?_
    refine zb_cVi E [.int (0), .int (xs (i + 2))] 128 zy_X12_sum zw_1501 (by decide) (zF_128 _ _ _ _) rfl (k2 _ _) ⟨Nat.le_of_ble_eq_true rfl, Nat.le_of_ble_eq_true rfl, by show _ ≤ 600000; (try dsimp only); omega, by show _ ≤ 7302249; (try dsimp only); omega⟩ rfl rfl (by first | decide | simp [Value.category]) dl_585 rfl ?_
    refine zb_icmp_eq E dl_588 (tgt := 1159) rfl (fun _ => ?_) (fun h => absurd rfl h)
    exact zb_wide (by (try dsimp only); omega) (by (try dsimp only); omega) (kk _ hI2)
  · obtain ⟨r, S1, S2, k1, k2, hI2⟩ := arm_sum (by omega) hI (a1 := 1) (a2 := xs (i + 2))
    refine zb_aload_n E dl_544 2 rfl rfl ?_
    refine la_arg E hc hi hL 1 (by decide) (kz := 1) rfl dl_545 dl_546 dl_547 dl_548 dl_549 ?_
    refine zb_if_eq E dl_550 (tgt := 557) rfl (fun h => absurd h hz) (fun _ => ?_)
    refine zb_iconst E dl_553 (v := 1) rfl ?_
    refine zb_goto E dl_554 (tgt := 558) rfl ?_
    refine la_arg E hc hi hL 2 (by decide) (kz := 2) rfl dl_558 dl_559 dl_560 dl_561 dl_562 ?_
    refine zb_cVi E [.int (1), .int (xs (i + 2))] 0 zy_X11_sum zw_518 (by decide) (zF_0 _ _ _ _) rfl (k1 _ _) ⟨Nat.le_of_ble_eq_true rfl, Nat.le_of_ble_eq_true rfl, by show _ ≤ 600000; (try dsimp only); omega, by show _ ≤ 7302249; (try dsimp only); omega⟩ rfl rfl (by first | decide | simp [Value.category]) dl_563 rfl ?_
    refine zb_aload_n E dl_566 3 rfl rfl ?_
    refine la_arg E hc hi hL 1 (by decide) (kz := 1) rfl dl_567 dl_568 dl_569 dl_570 dl_571 ?_
    refine zb_if_eq E dl_572 (tgt := 579) rfl (fun h => absurd h hz) (fun _ => ?_)
    refine zb_iconst E dl_575 (v := 1) rfl ?_
    refine zb_goto E dl_576 (tgt := 580) rfl ?_
    refine la_arg E hc hi hL 2 (by decide) (kz := 2) rfl dl_580 dl_581 dl_582 dl_583 dl_584 ?_
    refine zb_cVi E [.int (1), .int (xs (i + 2))] 128 zy_X12_sum zw_1501 (by decide) (zF_128 _ _ _ _) rfl (k2 _ _) ⟨Nat.le_of_ble_eq_true rfl, Nat.le_of_ble_eq_true rfl, by show _ ≤ 600000; (try dsimp only); omega, by show _ ≤ 7302249; (try dsimp only); omega⟩ rfl rfl (by first | decide | simp [Value.category]) dl_585 rfl ?_
    refine zb_icmp_eq E dl_588 (tgt := 1159) rfl (fun _ => ?_) (fun h => absurd rfl h)
    exact zb_wide (by (try dsimp only); omega) (by (try dsimp only); omega) (kk _ hI2)
theorem la_wear {C : zC} {cs : Nat × Nat} {b L i n : Nat} {xs : Nat → Int32} (E : zEl C) (hc : zSc C b L xs) (hi : i + 6 ≤ L) (hL : L ≤ 3072) (hn : n ≤ 512) {I : Nat → Nat → Int32} {J : Nat → Nat → Int64} {Rr : Nat → Nat → Option Nat} {D : zD} (hI : INV n I J Rr D) (h1 : cs.1 + 27 ≤ 600000) (h2 : cs.2 + 794 ≤ 7302249) (kk : ∀ S2, INVs (n + 1) S2 → zB C (cs.1 + 27, cs.2 + 794) 1159 (lvl C b i) [] S2) : zB C cs 593 (lvl C b i) [] (I, J, Rr, D) := by
  obtain ⟨r, S1, S2, k1, k2, hI2⟩ := arm_wear (by omega) hI (a1 := xs (i + 1)) (a2 := xs (i + 2)) (a3 := xs (i + 3))
  refine zb_aload_n E dl_593 2 rfl rfl ?_
  refine la_arg E hc hi hL 1 (by decide) (kz := 1) rfl dl_594 dl_595 dl_596 dl_597 dl_598 ?_
  refine la_arg E hc hi hL 2 (by decide) (kz := 2) rfl dl_599 dl_600 dl_601 dl_602 dl_603 ?_
  refine la_arg E hc hi hL 3 (by decide) (kz := 3) rfl dl_604 dl_605 dl_606 dl_607 dl_608 ?_
  refine zb_cVi E [.int (xs (i + 1)), .int (xs (i + 2)), .int (xs (i + 3))] 0 zy_X11_wear zw_526 (by decide) (zF_0 _ _ _ _) rfl (k1 _ _) ⟨Nat.le_of_ble_eq_true rfl, Nat.le_of_ble_eq_true rfl, by show _ ≤ 600000; (try dsimp only); omega, by show _ ≤ 7302249; (try dsimp only); omega⟩ rfl rfl (by first | decide | simp [Value.category]) dl_609 rfl ?_
  refine zb_aload_n E dl_612 3 rfl rfl ?_
  refine la_arg E hc hi hL 1 (by decide) (kz := 1) rfl dl_613 dl_614 dl_615 dl_616 dl_617 ?_
  refine la_arg E hc hi hL 2 (by decide) (kz := 2) rfl dl_618 dl_619 dl_620 dl_621 dl_622 ?_
  refine la_arg E hc hi hL 3 (by decide) (kz := 3) rfl dl_623 dl_624 dl_625 dl_626 dl_627 ?_
  refine zb_cVi E [.int (xs (i + 1)), .int (xs (i + 2)), .int (xs (i + 3))] 128 zy_X12_wear zw_1509 (by decide) (zF_128 _ _ _ _) rfl (k2 _ _) ⟨Nat.le_of_ble_eq_true rfl, Nat.le_of_ble_eq_true rfl, by show _ ≤ 600000; (try dsimp only); omega, by show _ ≤ 7302249; (try dsimp only); omega⟩ rfl rfl (by first | decide | simp [Value.category]) dl_628 rfl ?_
  refine zb_icmp_eq E dl_631 (tgt := 1159) rfl (fun _ => ?_) (fun h => absurd rfl h)
  exact zb_wide (by (try dsimp only); omega) (by (try dsimp only); omega) (kk _ hI2)
theorem la_fit {C : zC} {cs : Nat × Nat} {b L i n : Nat} {xs : Nat → Int32} (E : zEl C) (hc : zSc C b L xs) (hi : i + 6 ≤ L) (hL : L ≤ 3072) (hn : n ≤ 512) {I : Nat → Nat → Int32} {J : Nat → Nat → Int64} {Rr : Nat → Nat → Option Nat} {D : zD} (hI : INV n I J Rr D) (h1 : cs.1 + 27 ≤ 600000) (h2 : cs.2 + 794 ≤ 7302249) (kk : ∀ S2, INVs (n + 1) S2 → zB C (cs.1 + 27, cs.2 + 794) 1159 (lvl C b i) [] S2) : zB C cs 636 (lvl C b i) [] (I, J, Rr, D) := by
  obtain ⟨r, S1, S2, k1, k2, hI2⟩ := arm_fit (by omega) hI (a1 := xs (i + 1)) (a2 := xs (i + 2))
  refine zb_aload_n E dl_636 2 rfl rfl ?_
  refine la_arg E hc hi hL 1 (by decide) (kz := 1) rfl dl_637 dl_638 dl_639 dl_640 dl_641 ?_
  refine la_arg E hc hi hL 2 (by decide) (kz := 2) rfl dl_642 dl_643 dl_644 dl_645 dl_646 ?_
  refine zb_cVi E [.int (xs (i + 1)), .int (xs (i + 2))] 0 zy_X11_fit zw_534 (by decide) (zF_0 _ _ _ _) rfl (k1 _ _) ⟨Nat.le_of_ble_eq_true rfl, Nat.le_of_ble_eq_true rfl, by show _ ≤ 600000; (try dsimp only); omega, by show _ ≤ 7302249; (try dsimp only); omega⟩ rfl rfl (by first | decide | simp [Value.category]) dl_647 rfl ?_
  refine zb_aload_n E dl_650 3 rfl rfl ?_
  refine la_arg E hc hi hL 1 (by decide) (kz := 1) rfl dl_651 dl_652 dl_653 dl_654 dl_655 ?_
  refine la_arg E hc hi hL 2 (by decide) (kz := 2) rfl dl_656 dl_657 dl_658 dl_659 dl_660 ?_
  refine zb_cVi E [.int (xs (i + 1)), .int (xs (i + 2))] 128 zy_X12_fit zw_1516 (by decide) (zF_128 _ _ _ _) rfl (k2 _ _) ⟨Nat.le_of_ble_eq_true rfl, Nat.le_of_ble_eq_true rfl, by show _ ≤ 600000; (try dsimp only); omega, by show _ ≤ 7302249; (try dsimp only); omega⟩ rfl rfl (by first | decide | simp [Value.category]) dl_661 rfl ?_
  refine zb_icmp_eq E dl_664 (tgt := 1159) rfl (fun _ => ?_) (fun h => absurd rfl h)
  exact zb_wide (by (try dsimp only); omega) (by (try dsimp only); omega) (kk _ hI2)
theorem la_mate {C : zC} {cs : Nat × Nat} {b L i n : Nat} {xs : Nat → Int32} (E : zEl C) (hc : zSc C b L xs) (hi : i + 6 ≤ L) (hL : L ≤ 3072) (hn : n ≤ 512) {I : Nat → Nat → Int32} {J : Nat → Nat → Int64} {Rr : Nat → Nat → Option Nat} {D : zD} (hI : INV n I J Rr D) (h1 : cs.1 + 27 ≤ 600000) (h2 : cs.2 + 794 ≤ 7302249) (kk : ∀ S2, INVs (n + 1) S2 → zB C (cs.1 + 27, cs.2 + 794) 1159 (lvl C b i) [] S2) : zB C cs 669 (lvl C b i) [] (I, J, Rr, D) := by
  obtain ⟨r, S1, S2, k1, k2, hI2⟩ := arm_mate (by omega) hI (a1 := xs (i + 1))
  refine zb_aload_n E dl_669 2 rfl rfl ?_
  refine la_arg E hc hi hL 1 (by decide) (kz := 1) rfl dl_670 dl_671 dl_672 dl_673 dl_674 ?_
  refine zb_cVi E [.int (xs (i + 1))] 0 zy_X11_mate zw_554 (by decide) (zF_0 _ _ _ _) rfl (k1 _ _) ⟨Nat.le_of_ble_eq_true rfl, Nat.le_of_ble_eq_true rfl, by show _ ≤ 600000; (try dsimp only); omega, by show _ ≤ 7302249; (try dsimp only); omega⟩ rfl rfl (by first | decide | simp [Value.category]) dl_675 rfl ?_
  refine zb_aload_n E dl_678 3 rfl rfl ?_
  refine la_arg E hc hi hL 1 (by decide) (kz := 1) rfl dl_679 dl_680 dl_681 dl_682 dl_683 ?_
  refine zb_cVi E [.int (xs (i + 1))] 128 zy_X12_mate zw_1528 (by decide) (zF_128 _ _ _ _) rfl (k2 _ _) ⟨Nat.le_of_ble_eq_true rfl, Nat.le_of_ble_eq_true rfl, by show _ ≤ 600000; (try dsimp only); omega, by show _ ≤ 7302249; (try dsimp only); omega⟩ rfl rfl (by first | decide | simp [Value.category]) dl_684 rfl ?_
  refine zb_icmp_eq E dl_687 (tgt := 1159) rfl (fun _ => ?_) (fun h => absurd rfl h)
  exact zb_wide (by (try dsimp only); omega) (by (try dsimp only); omega) (kk _ hI2)
theorem la_matched {C : zC} {cs : Nat × Nat} {b L i n : Nat} {xs : Nat → Int32} (E : zEl C) (hc : zSc C b L xs) (hi : i + 6 ≤ L) (hL : L ≤ 3072) (hn : n ≤ 512) {I : Nat → Nat → Int32} {J : Nat → Nat → Int64} {Rr : Nat → Nat → Option Nat} {D : zD} (hI : INV n I J Rr D) (h1 : cs.1 + 27 ≤ 600000) (h2 : cs.2 + 794 ≤ 7302249) (kk : ∀ S2, INVs (n + 1) S2 → zB C (cs.1 + 27, cs.2 + 794) 1159 (lvl C b i) [] S2) : zB C cs 692 (lvl C b i) [] (I, J, Rr, D) := by
  obtain ⟨r, S1, S2, k1, k2, hI2⟩ := arm_matched (by omega) hI (a1 := xs (i + 1))
  refine zb_aload_n E dl_692 2 rfl rfl ?_
  refine la_arg E hc hi hL 1 (by decide) (kz := 1) rfl dl_693 dl_694 dl_695 dl_696 dl_697 ?_
  refine zb_cVi E [.int (xs (i + 1))] 0 zy_X11_matched zw_609 (by decide) (zF_0 _ _ _ _) rfl (k1 _ _) ⟨Nat.le_of_ble_eq_true rfl, Nat.le_of_ble_eq_true rfl, by show _ ≤ 600000; (try dsimp only); omega, by show _ ≤ 7302249; (try dsimp only); omega⟩ rfl rfl (by first | decide | simp [Value.category]) dl_698 rfl ?_
  refine zb_aload_n E dl_701 3 rfl rfl ?_
  refine la_arg E hc hi hL 1 (by decide) (kz := 1) rfl dl_702 dl_703 dl_704 dl_705 dl_706 ?_
  refine zb_cVi E [.int (xs (i + 1))] 128 zy_X12_matched zw_1545 (by decide) (zF_128 _ _ _ _) rfl (k2 _ _) ⟨Nat.le_of_ble_eq_true rfl, Nat.le_of_ble_eq_true rfl, by show _ ≤ 600000; (try dsimp only); omega, by show _ ≤ 7302249; (try dsimp only); omega⟩ rfl rfl (by first | decide | simp [Value.category]) dl_707 rfl ?_
  refine zb_icmp_eq E dl_710 (tgt := 1159) rfl (fun _ => ?_) (fun h => absurd rfl h)
  exact zb_wide (by (try dsimp only); omega) (by (try dsimp only); omega) (kk _ hI2)
theorem la_writ {C : zC} {cs : Nat × Nat} {b L i n : Nat} {xs : Nat → Int32} (E : zEl C) (hc : zSc C b L xs) (hi : i + 6 ≤ L) (hL : L ≤ 3072) (hn : n ≤ 512) {I : Nat → Nat → Int32} {J : Nat → Nat → Int64} {Rr : Nat → Nat → Option Nat} {D : zD} (hI : INV n I J Rr D) (h1 : cs.1 + 27 ≤ 600000) (h2 : cs.2 + 794 ≤ 7302249) (kk : ∀ S2, INVs (n + 1) S2 → zB C (cs.1 + 27, cs.2 + 794) 1159 (lvl C b i) [] S2) : zB C cs 715 (lvl C b i) [] (I, J, Rr, D) := by
  obtain ⟨r, S1, S2, k1, k2, hI2⟩ := arm_writ (by omega) hI (a1 := xs (i + 1))
  refine zb_aload_n E dl_715 2 rfl rfl ?_
  refine la_arg E hc hi hL 1 (by decide) (kz := 1) rfl dl_716 dl_717 dl_718 dl_719 dl_720 ?_
  refine zb_cVi E [.int (xs (i + 1))] 0 zy_X11_writ zw_621 (by decide) (zF_0 _ _ _ _) rfl (k1 _ _) ⟨Nat.le_of_ble_eq_true rfl, Nat.le_of_ble_eq_true rfl, by show _ ≤ 600000; (try dsimp only); omega, by show _ ≤ 7302249; (try dsimp only); omega⟩ rfl rfl (by first | decide | simp [Value.category]) dl_721 rfl ?_
  refine zb_aload_n E dl_724 3 rfl rfl ?_
  refine la_arg E hc hi hL 1 (by decide) (kz := 1) rfl dl_725 dl_726 dl_727 dl_728 dl_729 ?_
  refine zb_cVi E [.int (xs (i + 1))] 128 zy_X12_writ zw_1557 (by decide) (zF_128 _ _ _ _) rfl (k2 _ _) ⟨Nat.le_of_ble_eq_true rfl, Nat.le_of_ble_eq_true rfl, by show _ ≤ 600000; (try dsimp only); omega, by show _ ≤ 7302249; (try dsimp only); omega⟩ rfl rfl (by first | decide | simp [Value.category]) dl_730 rfl ?_
  refine zb_icmp_eq E dl_733 (tgt := 1159) rfl (fun _ => ?_) (fun h => absurd rfl h)
  exact zb_wide (by (try dsimp only); omega) (by (try dsimp only); omega) (kk _ hI2)
theorem la_fault {C : zC} {cs : Nat × Nat} {b L i n : Nat} {xs : Nat → Int32} (E : zEl C) (hc : zSc C b L xs) (hi : i + 6 ≤ L) (hL : L ≤ 3072) (hn : n ≤ 512) {I : Nat → Nat → Int32} {J : Nat → Nat → Int64} {Rr : Nat → Nat → Option Nat} {D : zD} (hI : INV n I J Rr D) (h1 : cs.1 + 27 ≤ 600000) (h2 : cs.2 + 794 ≤ 7302249) (kk : ∀ S2, INVs (n + 1) S2 → zB C (cs.1 + 27, cs.2 + 794) 1159 (lvl C b i) [] S2) : zB C cs 738 (lvl C b i) [] (I, J, Rr, D) := by
  obtain ⟨r, S1, S2, k1, k2, hI2⟩ := arm_fault (by omega) hI (a1 := xs (i + 1))
  refine zb_aload_n E dl_738 2 rfl rfl ?_
  refine la_arg E hc hi hL 1 (by decide) (kz := 1) rfl dl_739 dl_740 dl_741 dl_742 dl_743 ?_
  refine zb_cVi E [.int (xs (i + 1))] 0 zy_X11_fault zw_865 (by decide) (zF_0 _ _ _ _) rfl (k1 _ _) ⟨Nat.le_of_ble_eq_true rfl, Nat.le_of_ble_eq_true rfl, by show _ ≤ 600000; (try dsimp only); omega, by show _ ≤ 7302249; (try dsimp only); omega⟩ rfl rfl (by first | decide | simp [Value.category]) dl_744 rfl ?_
  refine zb_aload_n E dl_747 3 rfl rfl ?_
  refine la_arg E hc hi hL 1 (by decide) (kz := 1) rfl dl_748 dl_749 dl_750 dl_751 dl_752 ?_
  refine zb_cVi E [.int (xs (i + 1))] 128 zy_X12_fault zw_1684 (by decide) (zF_128 _ _ _ _) rfl (k2 _ _) ⟨Nat.le_of_ble_eq_true rfl, Nat.le_of_ble_eq_true rfl, by show _ ≤ 600000; (try dsimp only); omega, by show _ ≤ 7302249; (try dsimp only); omega⟩ rfl rfl (by first | decide | simp [Value.category]) dl_753 rfl ?_
  refine zb_icmp_eq E dl_756 (tgt := 1159) rfl (fun _ => ?_) (fun h => absurd rfl h)
  exact zb_wide (by (try dsimp only); omega) (by (try dsimp only); omega) (kk _ hI2)
theorem la_force {C : zC} {cs : Nat × Nat} {b L i n : Nat} {xs : Nat → Int32} (E : zEl C) (hc : zSc C b L xs) (hi : i + 6 ≤ L) (hL : L ≤ 3072) (hn : n ≤ 512) {I : Nat → Nat → Int32} {J : Nat → Nat → Int64} {Rr : Nat → Nat → Option Nat} {D : zD} (hI : INV n I J Rr D) (h1 : cs.1 + 27 ≤ 600000) (h2 : cs.2 + 794 ≤ 7302249) (kk : ∀ S2, INVs (n + 1) S2 → zB C (cs.1 + 27, cs.2 + 794) 1159 (lvl C b i) [] S2) : zB C cs 761 (lvl C b i) [] (I, J, Rr, D) := by
  obtain ⟨r, S1, S2, k1, k2, hI2⟩ := arm_force (by omega) hI (a1 := xs (i + 1))
  refine zb_aload_n E dl_761 2 rfl rfl ?_
  refine la_arg E hc hi hL 1 (by decide) (kz := 1) rfl dl_762 dl_763 dl_764 dl_765 dl_766 ?_
  refine zb_cVi E [.int (xs (i + 1))] 0 zy_X11_force zw_877 (by decide) (zF_0 _ _ _ _) rfl (k1 _ _) ⟨Nat.le_of_ble_eq_true rfl, Nat.le_of_ble_eq_true rfl, by show _ ≤ 600000; (try dsimp only); omega, by show _ ≤ 7302249; (try dsimp only); omega⟩ rfl rfl (by first | decide | simp [Value.category]) dl_767 rfl ?_
  refine zb_aload_n E dl_770 3 rfl rfl ?_
  refine la_arg E hc hi hL 1 (by decide) (kz := 1) rfl dl_771 dl_772 dl_773 dl_774 dl_775 ?_
  refine zb_cVi E [.int (xs (i + 1))] 128 zy_X12_force zw_1723 (by decide) (zF_128 _ _ _ _) rfl (k2 _ _) ⟨Nat.le_of_ble_eq_true rfl, Nat.le_of_ble_eq_true rfl, by show _ ≤ 600000; (try dsimp only); omega, by show _ ≤ 7302249; (try dsimp only); omega⟩ rfl rfl (by first | decide | simp [Value.category]) dl_776 rfl ?_
  refine zb_icmp_eq E dl_779 (tgt := 1159) rfl (fun _ => ?_) (fun h => absurd rfl h)
  exact zb_wide (by (try dsimp only); omega) (by (try dsimp only); omega) (kk _ hI2)
theorem la_pays {C : zC} {cs : Nat × Nat} {b L i n : Nat} {xs : Nat → Int32} (E : zEl C) (hc : zSc C b L xs) (hi : i + 6 ≤ L) (hL : L ≤ 3072) (hn : n ≤ 512) {I : Nat → Nat → Int32} {J : Nat → Nat → Int64} {Rr : Nat → Nat → Option Nat} {D : zD} (hI : INV n I J Rr D) (h1 : cs.1 + 27 ≤ 600000) (h2 : cs.2 + 794 ≤ 7302249) (kk : ∀ S2, INVs (n + 1) S2 → zB C (cs.1 + 27, cs.2 + 794) 1159 (lvl C b i) [] S2) : zB C cs 784 (lvl C b i) [] (I, J, Rr, D) := by
  obtain ⟨r, S1, S2, k1, k2, hI2⟩ := arm_pays (by omega) hI (a1 := xs (i + 1)) (a2 := xs (i + 2)) (a3 := xs (i + 3))
  refine zb_aload_n E dl_784 2 rfl rfl ?_
  refine la_arg E hc hi hL 1 (by decide) (kz := 1) rfl dl_785 dl_786 dl_787 dl_788 dl_789 ?_
  refine la_arg E hc hi hL 2 (by decide) (kz := 2) rfl dl_790 dl_791 dl_792 dl_793 dl_794 ?_
  refine la_arg E hc hi hL 3 (by decide) (kz := 3) rfl dl_795 dl_796 dl_797 dl_798 dl_799 ?_
  refine zb_cVi E [.int (xs (i + 1)), .int (xs (i + 2)), .int (xs (i + 3))] 0 zy_X11_pays zw_941 (by decide) (zF_0 _ _ _ _) rfl (k1 _ _) ⟨Nat.le_of_ble_eq_true rfl, Nat.le_of_ble_eq_true rfl, by show _ ≤ 600000; (try dsimp only); omega, by show _ ≤ 7302249; (try dsimp only); omega⟩ rfl rfl (by first | decide | simp [Value.category]) dl_800 rfl ?_
  refine zb_aload_n E dl_803 3 rfl rfl ?_
  refine la_arg E hc hi hL 1 (by decide) (kz := 1) rfl dl_804 dl_805 dl_806 dl_807 dl_808 ?_
  refine la_arg E hc hi hL 2 (by decide) (kz := 2) rfl dl_809 dl_810 dl_811 dl_812 dl_813 ?_
  refine la_arg E hc hi hL 3 (by decide) (kz := 3) rfl dl_814 dl_815 dl_816 dl_817 dl_818 ?_
  refine zb_cVi E [.int (xs (i + 1)), .int (xs (i + 2)), .int (xs (i + 3))] 128 zy_X12_pays zw_1688 (by decide) (zF_128 _ _ _ _) rfl (k2 _ _) ⟨Nat.le_of_ble_eq_true rfl, Nat.le_of_ble_eq_true rfl, by show _ ≤ 600000; (try dsimp only); omega, by show _ ≤ 7302249; (try dsimp only); omega⟩ rfl rfl (by first | decide | simp [Value.category]) dl_819 rfl ?_
  refine zb_icmp_eq E dl_822 (tgt := 1159) rfl (fun _ => ?_) (fun h => absurd rfl h)
  exact zb_wide (by (try dsimp only); omega) (by (try dsimp only); omega) (kk _ hI2)
