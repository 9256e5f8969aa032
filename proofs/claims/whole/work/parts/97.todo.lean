theorem H_feed (S : St) (x1 x2 x3 x4 x5 : Int32) (hI : INV S) : Stq INV (fX11_feed 0 x1 x2 x3 x4 x5) (fX12_feed 32 x1 x2 x3 x4 x5) S := sorry
theorem H_pattern (S : St) (x1 x2 : Int32) (hI : INV S) : Stq INV (fX11_pattern 0 x1 x2) (fX12_pattern 32 x1 x2) S := sorry
theorem H_list (S : St) (x1 x2 : Int32) (hI : INV S) : Stq INV (fX11_list 0 x1 x2) (fX12_list 32 x1 x2) S := sorry
theorem H_about (S : St) (x1 x2 : Int32) (hI : INV S) : Stq INV (fX11_about 0 x1 x2) (fX12_about 32 x1 x2) S := sorry
theorem H_hand (S : St) (x1 x2 x3 : Int32) (hI : INV S) : Stq INV (fX11_hand 0 x1 x2 x3) (fX12_hand 32 x1 x2 x3) S := sorry
theorem H_hay (S : St) (x1 x2 x3 : Int32) (hb : x3 = 0 ∨ x3 = 1) (hI : INV S) : Stq INV (fX11_hay 0 x1 x2 x3) (fX12_hay 32 x1 x2 x3) S := sorry
theorem H_term (S : St) (x1 x2 x3 x4 x5 x6 : Int32) (hI : INV S) : Stq INV (fX11_term 0 x1 x2 x3 x4 x5 x6) (fX12_term 32 x1 x2 x3 x4 x5 x6) S := sorry
theorem H_out (S : St) (x1 x2 x3 : Int32) (hI : INV S) : Stq INV (fX11_out 0 x1 x2 x3) (fX12_out 32 x1 x2 x3) S := sorry
theorem H_in (S : St) (x1 x2 x3 : Int32) (hI : INV S) : Stq INV (fX11_in 0 x1 x2 x3) (fX12_in 32 x1 x2 x3) S := sorry
theorem H_bill (S : St) (x1 x2 x3 : Int32) (hI : INV S) : Stq INV (fX11_bill 0 x1 x2 x3) (fX12_bill 32 x1 x2 x3) S := sorry
theorem H_wronged (S : St) (x1 x2 : Int32) (hI : INV S) : Stq INV (fX11_wronged 0 x1 x2) (fX12_wronged 32 x1 x2) S := sorry
theorem H_part (S : St) (x1 x2 x3 x4 : Int32) (hI : INV S) : Stq INV (fX11_part 0 x1 x2 x3 x4) (fX12_part 32 x1 x2 x3 x4) S := sorry
theorem H_parted (S : St) (x1 x2 x3 x4 : Int32) (hI : INV S) : Stq INV (fX11_parted 0 x1 x2 x3 x4) (fX12_parted 32 x1 x2 x3 x4) S := sorry
theorem H_who (S : St) (x1 x2 : Int32) (hI : INV S) : Stq INV (fX11_who 0 x1 x2) (fX12_who 32 x1 x2) S := sorry
theorem H_stolen (S : St) (x1 x2 x3 : Int32) (hI : INV S) : Stq INV (fX11_stolen 0 x1 x2 x3) (fX12_stolen 32 x1 x2 x3) S := sorry
theorem H_even (S : St) (x1 x2 x3 : Int32) (hI : INV S) : Stq INV (fX11_even 0 x1 x2 x3) (fX12_even 32 x1 x2 x3) S := sorry
theorem H_image (S : St) (x1 : Int32) (hI : INV S) : Stq INV (fX11_image 0 x1) (fX12_image 32 x1) S := sorry
theorem H_again (S : St) (x1 : Int32) (hI : INV S) : Stq INV (fX11_again 0 x1) (fX12_again 32 x1) S := sorry
