theorem t_195_11 {fx : am_X0} {o : List am_V × am_S} {m : am_M} {b : Int} {x2 : Int} {x3 : Int} {x4 : Int}  (H : ((am_s (m 54 0) ≤ am_s x4) → o = ([.inl x3], st0 (mu m 54 1 ((m 54 1) + 1)))) ∧ (¬ (am_s (m 54 0) ≤ am_s x4) → (0 ≤ am_s (8 + x4) ∧ am_s (8 + x4) < (168 : Nat)) ∧ (((¬ am_s (m 54 ((am_s (8 + x4)).toNat)) = am_s 3) → ((¬ am_s (m 54 ((am_s (8 + x4)).toNat)) = 0) → (0 ≤ am_s (44 + x4) ∧ am_s (44 + x4) < (168 : Nat)) ∧ (((0 ≤ (am_s b) ∧ (am_s b) < 2147483648) ∧ 0 ≤ x4 ∧ x4 < 32) ∧ (((am_s ((if (am_s b).toNat.testBit x4.toNat = true then 1 else 0)) = 0) → ((am_s ((m 54 ((am_s (44 + x4)).toNat)) + 1) ≤ am_s 99) → rn fx 2 (0, 0) 195 11 [some (.inr (.inr (some 53))), some (.inl b), some (.inl x2), some (.inl x3), some (.inl (x4 + 1)), none, none, none] [] (st0 (mu m 54 ((am_s (44 + x4)).toNat) ((m 54 ((am_s (44 + x4)).toNat)) + 1))) o) ∧ (¬ (am_s ((m 54 ((am_s (44 + x4)).toNat)) + 1) ≤ am_s 99) → rn fx 2 (0, 0) 195 11 [some (.inr (.inr (some 53))), some (.inl b), some (.inl x2), some (.inl x3), some (.inl (x4 + 1)), none, none, none] [] (st0 (mu m 54 ((am_s (44 + x4)).toNat) 99)) o)) ∧ (¬ (am_s ((if (am_s b).toNat.testBit x4.toNat = true then 1 else 0)) = 0) → rn fx 2 (0, 0) 195 11 [some (.inr (.inr (some 53))), some (.inl b), some (.inl x2), some (.inl x3), some (.inl (x4 + 1)), none, none, none] [] (st0 (mu m 54 ((am_s (44 + x4)).toNat) 0)) o)))) ∧ (¬ (¬ am_s (m 54 ((am_s (8 + x4)).toNat)) = 0) → (0 ≤ am_s (44 + x4) ∧ am_s (44 + x4) < (168 : Nat)) ∧ (((0 ≤ x2 ∧ x2 < 2147483648) ∧ 0 ≤ x4 ∧ x4 < 12) ∧ (((am_s (bsd x2.toNat x4.toNat) ≤ 0) → ((0 ≤ (am_s b) ∧ (am_s b) < 2147483648) ∧ 0 ≤ x4 ∧ x4 < 32) ∧ (((am_s ((if (am_s b).toNat.testBit x4.toNat = true then 1 else 0)) = 0) → ((am_s ((m 54 ((am_s (44 + x4)).toNat)) + 1) ≤ am_s 99) → (0 ≤ am_s (32 + x4) ∧ am_s (32 + x4) < (168 : Nat)) ∧ ((0 ≤ am_s (20 + x4) ∧ am_s (20 + x4) < (168 : Nat)) ∧ (((am_s (((mu m 54 ((am_s (44 + x4)).toNat) ((m 54 ((am_s (44 + x4)).toNat)) + 1)) 54 ((am_s (32 + x4)).toNat)) + (1 * ((mu m 54 ((am_s (44 + x4)).toNat) ((m 54 ((am_s (44 + x4)).toNat)) + 1)) 54 ((am_s (20 + x4)).toNat)))) ≤ am_s 100) → ((am_s ((mu (mu m 54 ((am_s (44 + x4)).toNat) ((m 54 ((am_s (44 + x4)).toNat)) + 1)) 54 ((am_s (32 + x4)).toNat) (((mu m 54 ((am_s (44 + x4)).toNat) ((m 54 ((am_s (44 + x4)).toNat)) + 1)) 54 ((am_s (32 + x4)).toNat)) + (1 * ((mu m 54 ((am_s (44 + x4)).toNat) ((m 54 ((am_s (44 + x4)).toNat)) + 1)) 54 ((am_s (20 + x4)).toNat))))) 54 5) < am_s ((mu (mu m 54 ((am_s (44 + x4)).toNat) ((m 54 ((am_s (44 + x4)).toNat)) + 1)) 54 ((am_s (32 + x4)).toNat) (((mu m 54 ((am_s (44 + x4)).toNat) ((m 54 ((am_s (44 + x4)).toNat)) + 1)) 54 ((am_s (32 + x4)).toNat)) + (1 * ((mu m 54 ((am_s (44 + x4)).toNat) ((m 54 ((am_s (44 + x4)).toNat)) + 1)) 54 ((am_s (20 + x4)).toNat))))) 54 ((am_s (44 + x4)).toNat))) → rn fx 2 (0, 0) 195 11 [some (.inr (.inr (some 53))), some (.inl b), some (.inl x2), some (.inl (x3 + 1)), some (.inl (x4 + 1)), none, none, none] [] (st0 (mu (mu (mu m 54 ((am_s (44 + x4)).toNat) ((m 54 ((am_s (44 + x4)).toNat)) + 1)) 54 ((am_s (32 + x4)).toNat) (((mu m 54 ((am_s (44 + x4)).toNat) ((m 54 ((am_s (44 + x4)).toNat)) + 1)) 54 ((am_s (32 + x4)).toNat)) + (1 * ((mu m 54 ((am_s (44 + x4)).toNat) ((m 54 ((am_s (44 + x4)).toNat)) + 1)) 54 ((am_s (20 + x4)).toNat))))) 54 ((am_s (8 + x4)).toNat) 1)) o) ∧ (¬ (am_s ((mu (mu m 54 ((am_s (44 + x4)).toNat) ((m 54 ((am_s (44 + x4)).toNat)) + 1)) 54 ((am_s (32 + x4)).toNat) (((mu m 54 ((am_s (44 + x4)).toNat) ((m 54 ((am_s (44 + x4)).toNat)) + 1)) 54 ((am_s (32 + x4)).toNat)) + (1 * ((mu m 54 ((am_s (44 + x4)).toNat) ((m 54 ((am_s (44 + x4)).toNat)) + 1)) 54 ((am_s (20 + x4)).toNat))))) 54 5) < am_s ((mu (mu m 54 ((am_s (44 + x4)).toNat) ((m 54 ((am_s (44 + x4)).toNat)) + 1)) 54 ((am_s (32 + x4)).toNat) (((mu m 54 ((am_s (44 + x4)).toNat) ((m 54 ((am_s (44 + x4)).toNat)) + 1)) 54 ((am_s (32 + x4)).toNat)) + (1 * ((mu m 54 ((am_s (44 + x4)).toNat) ((m 54 ((am_s (44 + x4)).toNat)) + 1)) 54 ((am_s (20 + x4)).toNat))))) 54 ((am_s (44 + x4)).toNat))) → rn fx 2 (0, 0) 195 11 [some (.inr (.inr (some 53))), some (.inl b), some (.inl x2), some (.inl x3), some (.inl (x4 + 1)), none, none, none] [] (st0 (mu (mu m 54 ((am_s (44 + x4)).toNat) ((m 54 ((am_s (44 + x4)).toNat)) + 1)) 54 ((am_s (32 + x4)).toNat) (((mu m 54 ((am_s (44 + x4)).toNat) ((m 54 ((am_s (44 + x4)).toNat)) + 1)) 54 ((am_s (32 + x4)).toNat)) + (1 * ((mu m 54 ((am_s (44 + x4)).toNat) ((m 54 ((am_s (44 + x4)).toNat)) + 1)) 54 ((am_s (20 + x4)).toNat)))))) o)) ∧ (¬ (am_s (((mu m 54 ((am_s (44 + x4)).toNat) ((m 54 ((am_s (44 + x4)).toNat)) + 1)) 54 ((am_s (32 + x4)).toNat)) + (1 * ((mu m 54 ((am_s (44 + x4)).toNat) ((m 54 ((am_s (44 + x4)).toNat)) + 1)) 54 ((am_s (20 + x4)).toNat)))) ≤ am_s 100) → ((am_s ((mu (mu m 54 ((am_s (44 + x4)).toNat) ((m 54 ((am_s (44 + x4)).toNat)) + 1)) 54 ((am_s (32 + x4)).toNat) 100) 54 5) < am_s ((mu (mu m 54 ((am_s (44 + x4)).toNat) ((m 54 ((am_s (44 + x4)).toNat)) + 1)) 54 ((am_s (32 + x4)).toNat) 100) 54 ((am_s (44 + x4)).toNat))) → rn fx 2 (0, 0) 195 11 [some (.inr (.inr (some 53))), some (.inl b), some (.inl x2), some (.inl (x3 + 1)), some (.inl (x4 + 1)), none, none, none] [] (st0 (mu (mu (mu m 54 ((am_s (44 + x4)).toNat) ((m 54 ((am_s (44 + x4)).toNat)) + 1)) 54 ((am_s (32 + x4)).toNat) 100) 54 ((am_s (8 + x4)).toNat) 1)) o) ∧ (¬ (am_s ((mu (mu m 54 ((am_s (44 + x4)).toNat) ((m 54 ((am_s (44 + x4)).toNat)) + 1)) 54 ((am_s (32 + x4)).toNat) 100) 54 5) < am_s ((mu (mu m 54 ((am_s (44 + x4)).toNat) ((m 54 ((am_s (44 + x4)).toNat)) + 1)) 54 ((am_s (32 + x4)).toNat) 100) 54 ((am_s (44 + x4)).toNat))) → rn fx 2 (0, 0) 195 11 [some (.inr (.inr (some 53))), some (.inl b), some (.inl x2), some (.inl x3), some (.inl (x4 + 1)), none, none, none] [] (st0 (mu (mu m 54 ((am_s (44 + x4)).toNat) ((m 54 ((am_s (44 + x4)).toNat)) + 1)) 54 ((am_s (32 + x4)).toNat) 100)) o))))) ∧ (¬ (am_s ((m 54 ((am_s (44 + x4)).toNat)) + 1) ≤ am_s 99) → (0 ≤ am_s (32 + x4) ∧ am_s (32 + x4) < (168 : Nat)) ∧ ((0 ≤ am_s (20 + x4) ∧ am_s (20 + x4) < (168 : Nat)) ∧ (((am_s (((mu m 54 ((am_s (44 + x4)).toNat) 99) 54 ((am_s (32 + x4)).toNat)) + (1 * ((mu m 54 ((am_s (44 + x4)).toNat) 99) 54 ((am_s (20 + x4)).toNat)))) ≤ am_s 100) → ((am_s ((mu (mu m 54 ((am_s (44 + x4)).toNat) 99) 54 ((am_s (32 + x4)).toNat) (((mu m 54 ((am_s (44 + x4)).toNat) 99) 54 ((am_s (32 + x4)).toNat)) + (1 * ((mu m 54 ((am_s (44 + x4)).toNat) 99) 54 ((am_s (20 + x4)).toNat))))) 54 5) < am_s ((mu (mu m 54 ((am_s (44 + x4)).toNat) 99) 54 ((am_s (32 + x4)).toNat) (((mu m 54 ((am_s (44 + x4)).toNat) 99) 54 ((am_s (32 + x4)).toNat)) + (1 * ((mu m 54 ((am_s (44 + x4)).toNat) 99) 54 ((am_s (20 + x4)).toNat))))) 54 ((am_s (44 + x4)).toNat))) → rn fx 2 (0, 0) 195 11 [some (.inr (.inr (some 53))), some (.inl b), some (.inl x2), some (.inl (x3 + 1)), some (.inl (x4 + 1)), none, none, none] [] (st0 (mu (mu (mu m 54 ((am_s (44 + x4)).toNat) 99) 54 ((am_s (32 + x4)).toNat) (((mu m 54 ((am_s (44 + x4)).toNat) 99) 54 ((am_s (32 + x4)).toNat)) + (1 * ((mu m 54 ((am_s (44 + x4)).toNat) 99) 54 ((am_s (20 + x4)).toNat))))) 54 ((am_s (8 + x4)).toNat) 1)) o) ∧ (¬ (am_s ((mu (mu m 54 ((am_s (44 + x4)).toNat) 99) 54 ((am_s (32 + x4)).toNat) (((mu m 54 ((am_s (44 + x4)).toNat) 99) 54 ((am_s (32 + x4)).toNat)) + (1 * ((mu m 54 ((am_s (44 + x4)).toNat) 99) 54 ((am_s (20 + x4)).toNat))))) 54 5) < am_s ((mu (mu m 54 ((am_s (44 + x4)).toNat) 99) 54 ((am_s (32 + x4)).toNat) (((mu m 54 ((am_s (44 + x4)).toNat) 99) 54 ((am_s (32 + x4)).toNat)) + (1 * ((mu m 54 ((am_s (44 + x4)).toNat) 99) 54 ((am_s (20 + x4)).toNat))))) 54 ((am_s (44 + x4)).toNat))) → rn fx 2 (0, 0) 195 11 [some (.inr (.inr (some 53))), some (.inl b), some (.inl x2), some (.inl x3), some (.inl (x4 + 1)), none, none, none] [] (st0 (mu (mu m 54 ((am_s (44 + x4)).toNat) 99) 54 ((am_s (32 + x4)).toNat) (((mu m 54 ((am_s (44 + x4)).toNat) 99) 54 ((am_s (32 + x4)).toNat)) + (1 * ((mu m 54 ((am_s (44 + x4)).toNat) 99) 54 ((am_s (20 + x4)).toNat)))))) o)) ∧ (¬ (am_s (((mu m 54 ((am_s (44 + x4)).toNat) 99) 54 ((am_s (32 + x4)).toNat)) + (1 * ((mu m 54 ((am_s (44 + x4)).toNat) 99) 54 ((am_s (20 + x4)).toNat)))) ≤ am_s 100) → ((am_s ((mu (mu m 54 ((am_s (44 + x4)).toNat) 99) 54 ((am_s (32 + x4)).toNat) 100) 54 5) < am_s ((mu (mu m 54 ((am_s (44 + x4)).toNat) 99) 54 ((am_s (32 + x4)).toNat) 100) 54 ((am_s (44 + x4)).toNat))) → rn fx 2 (0, 0) 195 11 [some (.inr (.inr (some 53))), some (.inl b), some (.inl x2), some (.inl (x3 + 1)), some (.inl (x4 + 1)), none, none, none] [] (st0 (mu (mu (mu m 54 ((am_s (44 + x4)).toNat) 99) 54 ((am_s (32 + x4)).toNat) 100) 54 ((am_s (8 + x4)).toNat) 1)) o) ∧ (¬ (am_s ((mu (mu m 54 ((am_s (44 + x4)).toNat) 99) 54 ((am_s (32 + x4)).toNat) 100) 54 5) < am_s ((mu (mu m 54 ((am_s (44 + x4)).toNat) 99) 54 ((am_s (32 + x4)).toNat) 100) 54 ((am_s (44 + x4)).toNat))) → rn fx 2 (0, 0) 195 11 [some (.inr (.inr (some 53))), some (.inl b), some (.inl x2), some (.inl x3), some (.inl (x4 + 1)), none, none, none] [] (st0 (mu (mu m 54 ((am_s (44 + x4)).toNat) 99) 54 ((am_s (32 + x4)).toNat) 100)) o)))))) ∧ (¬ (am_s ((if (am_s b).toNat.testBit x4.toNat = true then 1 else 0)) = 0) → (0 ≤ am_s (32 + x4) ∧ am_s (32 + x4) < (168 : Nat)) ∧ ((0 ≤ am_s (20 + x4) ∧ am_s (20 + x4) < (168 : Nat)) ∧ (((am_s (((mu m 54 ((am_s (44 + x4)).toNat) 0) 54 ((am_s (32 + x4)).toNat)) + (2 * ((mu m 54 ((am_s (44 + x4)).toNat) 0) 54 ((am_s (20 + x4)).toNat)))) ≤ am_s 100) → ((am_s ((mu (mu m 54 ((am_s (44 + x4)).toNat) 0) 54 ((am_s (32 + x4)).toNat) (((mu m 54 ((am_s (44 + x4)).toNat) 0) 54 ((am_s (32 + x4)).toNat)) + (2 * ((mu m 54 ((am_s (44 + x4)).toNat) 0) 54 ((am_s (20 + x4)).toNat))))) 54 5) < am_s ((mu (mu m 54 ((am_s (44 + x4)).toNat) 0) 54 ((am_s (32 + x4)).toNat) (((mu m 54 ((am_s (44 + x4)).toNat) 0) 54 ((am_s (32 + x4)).toNat)) + (2 * ((mu m 54 ((am_s (44 + x4)).toNat) 0) 54 ((am_s (20 + x4)).toNat))))) 54 ((am_s (44 + x4)).toNat))) → rn fx 2 (0, 0) 195 11 [some (.inr (.inr (some 53))), some (.inl b), some (.inl x2), some (.inl (x3 + 1)), some (.inl (x4 + 1)), none, none, none] [] (st0 (mu (mu (mu m 54 ((am_s (44 + x4)).toNat) 0) 54 ((am_s (32 + x4)).toNat) (((mu m 54 ((am_s (44 + x4)).toNat) 0) 54 ((am_s (32 + x4)).toNat)) + (2 * ((mu m 54 ((am_s (44 + x4)).toNat) 0) 54 ((am_s (20 + x4)).toNat))))) 54 ((am_s (8 + x4)).toNat) 1)) o) ∧ (¬ (am_s ((mu (mu m 54 ((am_s (44 + x4)).toNat) 0) 54 ((am_s (32 + x4)).toNat) (((mu m 54 ((am_s (44 + x4)).toNat) 0) 54 ((am_s (32 + x4)).toNat)) + (2 * ((mu m 54 ((am_s (44 + x4)).toNat) 0) 54 ((am_s (20 + x4)).toNat))))) 54 5) < am_s ((mu (mu m 54 ((am_s (44 + x4)).toNat) 0) 54 ((am_s (32 + x4)).toNat) (((mu m 54 ((am_s (44 + x4)).toNat) 0) 54 ((am_s (32 + x4)).toNat)) + (2 * ((mu m 54 ((am_s (44 + x4)).toNat) 0) 54 ((am_s (20 + x4)).toNat))))) 54 ((am_s (44 + x4)).toNat))) → rn fx 2 (0, 0) 195 11 [some (.inr (.inr (some 53))), some (.inl b), some (.inl x2), some (.inl x3), some (.inl (x4 + 1)), none, none, none] [] (st0 (mu (mu m 54 ((am_s (44 + x4)).toNat) 0) 54 ((am_s (32 + x4)).toNat) (((mu m 54 ((am_s (44 + x4)).toNat) 0) 54 ((am_s (32 + x4)).toNat)) + (2 * ((mu m 54 ((am_s (44 + x4)).toNat) 0) 54 ((am_s (20 + x4)).toNat)))))) o)) ∧ (¬ (am_s (((mu m 54 ((am_s (44 + x4)).toNat) 0) 54 ((am_s (32 + x4)).toNat)) + (2 * ((mu m 54 ((am_s (44 + x4)).toNat) 0) 54 ((am_s (20 + x4)).toNat)))) ≤ am_s 100) → ((am_s ((mu (mu m 54 ((am_s (44 + x4)).toNat) 0) 54 ((am_s (32 + x4)).toNat) 100) 54 5) < am_s ((mu (mu m 54 ((am_s (44 + x4)).toNat) 0) 54 ((am_s (32 + x4)).toNat) 100) 54 ((am_s (44 + x4)).toNat))) → rn fx 2 (0, 0) 195 11 [some (.inr (.inr (some 53))), some (.inl b), some (.inl x2), some (.inl (x3 + 1)), some (.inl (x4 + 1)), none, none, none] [] (st0 (mu (mu (mu m 54 ((am_s (44 + x4)).toNat) 0) 54 ((am_s (32 + x4)).toNat) 100) 54 ((am_s (8 + x4)).toNat) 1)) o) ∧ (¬ (am_s ((mu (mu m 54 ((am_s (44 + x4)).toNat) 0) 54 ((am_s (32 + x4)).toNat) 100) 54 5) < am_s ((mu (mu m 54 ((am_s (44 + x4)).toNat) 0) 54 ((am_s (32 + x4)).toNat) 100) 54 ((am_s (44 + x4)).toNat))) → rn fx 2 (0, 0) 195 11 [some (.inr (.inr (some 53))), some (.inl b), some (.inl x2), some (.inl x3), some (.inl (x4 + 1)), none, none, none] [] (st0 (mu (mu m 54 ((am_s (44 + x4)).toNat) 0) 54 ((am_s (32 + x4)).toNat) 100)) o))))))) ∧ (¬ (am_s (bsd x2.toNat x4.toNat) ≤ 0) → ((0 ≤ (am_s b) ∧ (am_s b) < 2147483648) ∧ 0 ≤ x4 ∧ x4 < 32) ∧ (((am_s ((if (am_s b).toNat.testBit x4.toNat = true then 1 else 0)) = 0) → ((am_s ((m 54 ((am_s (44 + x4)).toNat)) + 2) ≤ am_s 99) → (0 ≤ am_s (32 + x4) ∧ am_s (32 + x4) < (168 : Nat)) ∧ ((0 ≤ am_s (20 + x4) ∧ am_s (20 + x4) < (168 : Nat)) ∧ (((am_s (((mu m 54 ((am_s (44 + x4)).toNat) ((m 54 ((am_s (44 + x4)).toNat)) + 2)) 54 ((am_s (32 + x4)).toNat)) + (1 * ((mu m 54 ((am_s (44 + x4)).toNat) ((m 54 ((am_s (44 + x4)).toNat)) + 2)) 54 ((am_s (20 + x4)).toNat)))) ≤ am_s 100) → ((am_s ((mu (mu m 54 ((am_s (44 + x4)).toNat) ((m 54 ((am_s (44 + x4)).toNat)) + 2)) 54 ((am_s (32 + x4)).toNat) (((mu m 54 ((am_s (44 + x4)).toNat) ((m 54 ((am_s (44 + x4)).toNat)) + 2)) 54 ((am_s (32 + x4)).toNat)) + (1 * ((mu m 54 ((am_s (44 + x4)).toNat) ((m 54 ((am_s (44 + x4)).toNat)) + 2)) 54 ((am_s (20 + x4)).toNat))))) 54 5) < am_s ((mu (mu m 54 ((am_s (44 + x4)).toNat) ((m 54 ((am_s (44 + x4)).toNat)) + 2)) 54 ((am_s (32 + x4)).toNat) (((mu m 54 ((am_s (44 + x4)).toNat) ((m 54 ((am_s (44 + x4)).toNat)) + 2)) 54 ((am_s (32 + x4)).toNat)) + (1 * ((mu m 54 ((am_s (44 + x4)).toNat) ((m 54 ((am_s (44 + x4)).toNat)) + 2)) 54 ((am_s (20 + x4)).toNat))))) 54 ((am_s (44 + x4)).toNat))) → rn fx 2 (0, 0) 195 11 [some (.inr (.inr (some 53))), some (.inl b), some (.inl x2), some (.inl (x3 + 1)), some (.inl (x4 + 1)), none, none, none] [] (st0 (mu (mu (mu m 54 ((am_s (44 + x4)).toNat) ((m 54 ((am_s (44 + x4)).toNat)) + 2)) 54 ((am_s (32 + x4)).toNat) (((mu m 54 ((am_s (44 + x4)).toNat) ((m 54 ((am_s (44 + x4)).toNat)) + 2)) 54 ((am_s (32 + x4)).toNat)) + (1 * ((mu m 54 ((am_s (44 + x4)).toNat) ((m 54 ((am_s (44 + x4)).toNat)) + 2)) 54 ((am_s (20 + x4)).toNat))))) 54 ((am_s (8 + x4)).toNat) 1)) o) ∧ (¬ (am_s ((mu (mu m 54 ((am_s (44 + x4)).toNat) ((m 54 ((am_s (44 + x4)).toNat)) + 2)) 54 ((am_s (32 + x4)).toNat) (((mu m 54 ((am_s (44 + x4)).toNat) ((m 54 ((am_s (44 + x4)).toNat)) + 2)) 54 ((am_s (32 + x4)).toNat)) + (1 * ((mu m 54 ((am_s (44 + x4)).toNat) ((m 54 ((am_s (44 + x4)).toNat)) + 2)) 54 ((am_s (20 + x4)).toNat))))) 54 5) < am_s ((mu (mu m 54 ((am_s (44 + x4)).toNat) ((m 54 ((am_s (44 + x4)).toNat)) + 2)) 54 ((am_s (32 + x4)).toNat) (((mu m 54 ((am_s (44 + x4)).toNat) ((m 54 ((am_s (44 + x4)).toNat)) + 2)) 54 ((am_s (32 + x4)).toNat)) + (1 * ((mu m 54 ((am_s (44 + x4)).toNat) ((m 54 ((am_s (44 + x4)).toNat)) + 2)) 54 ((am_s (20 + x4)).toNat))))) 54 ((am_s (44 + x4)).toNat))) → rn fx 2 (0, 0) 195 11 [some (.inr (.inr (some 53))), some (.inl b), some (.inl x2), some (.inl x3), some (.inl (x4 + 1)), none, none, none] [] (st0 (mu (mu m 54 ((am_s (44 + x4)).toNat) ((m 54 ((am_s (44 + x4)).toNat)) + 2)) 54 ((am_s (32 + x4)).toNat) (((mu m 54 ((am_s (44 + x4)).toNat) ((m 54 ((am_s (44 + x4)).toNat)) + 2)) 54 ((am_s (32 + x4)).toNat)) + (1 * ((mu m 54 ((am_s (44 + x4)).toNat) ((m 54 ((am_s (44 + x4)).toNat)) + 2)) 54 ((am_s (20 + x4)).toNat)))))) o)) ∧ (¬ (am_s (((mu m 54 ((am_s (44 + x4)).toNat) ((m 54 ((am_s (44 + x4)).toNat)) + 2)) 54 ((am_s (32 + x4)).toNat)) + (1 * ((mu m 54 ((am_s (44 + x4)).toNat) ((m 54 ((am_s (44 + x4)).toNat)) + 2)) 54 ((am_s (20 + x4)).toNat)))) ≤ am_s 100) → ((am_s ((mu (mu m 54 ((am_s (44 + x4)).toNat) ((m 54 ((am_s (44 + x4)).toNat)) + 2)) 54 ((am_s (32 + x4)).toNat) 100) 54 5) < am_s ((mu (mu m 54 ((am_s (44 + x4)).toNat) ((m 54 ((am_s (44 + x4)).toNat)) + 2)) 54 ((am_s (32 + x4)).toNat) 100) 54 ((am_s (44 + x4)).toNat))) → rn fx 2 (0, 0) 195 11 [some (.inr (.inr (some 53))), some (.inl b), some (.inl x2), some (.inl (x3 + 1)), some (.inl (x4 + 1)), none, none, none] [] (st0 (mu (mu (mu m 54 ((am_s (44 + x4)).toNat) ((m 54 ((am_s (44 + x4)).toNat)) + 2)) 54 ((am_s (32 + x4)).toNat) 100) 54 ((am_s (8 + x4)).toNat) 1)) o) ∧ (¬ (am_s ((mu (mu m 54 ((am_s (44 + x4)).toNat) ((m 54 ((am_s (44 + x4)).toNat)) + 2)) 54 ((am_s (32 + x4)).toNat) 100) 54 5) < am_s ((mu (mu m 54 ((am_s (44 + x4)).toNat) ((m 54 ((am_s (44 + x4)).toNat)) + 2)) 54 ((am_s (32 + x4)).toNat) 100) 54 ((am_s (44 + x4)).toNat))) → rn fx 2 (0, 0) 195 11 [some (.inr (.inr (some 53))), some (.inl b), some (.inl x2), some (.inl x3), some (.inl (x4 + 1)), none, none, none] [] (st0 (mu (mu m 54 ((am_s (44 + x4)).toNat) ((m 54 ((am_s (44 + x4)).toNat)) + 2)) 54 ((am_s (32 + x4)).toNat) 100)) o))))) ∧ (¬ (am_s ((m 54 ((am_s (44 + x4)).toNat)) + 2) ≤ am_s 99) → (0 ≤ am_s (32 + x4) ∧ am_s (32 + x4) < (168 : Nat)) ∧ ((0 ≤ am_s (20 + x4) ∧ am_s (20 + x4) < (168 : Nat)) ∧ (((am_s (((mu m 54 ((am_s (44 + x4)).toNat) 99) 54 ((am_s (32 + x4)).toNat)) + (1 * ((mu m 54 ((am_s (44 + x4)).toNat) 99) 54 ((am_s (20 + x4)).toNat)))) ≤ am_s 100) → ((am_s ((mu (mu m 54 ((am_s (44 + x4)).toNat) 99) 54 ((am_s (32 + x4)).toNat) (((mu m 54 ((am_s (44 + x4)).toNat) 99) 54 ((am_s (32 + x4)).toNat)) + (1 * ((mu m 54 ((am_s (44 + x4)).toNat) 99) 54 ((am_s (20 + x4)).toNat))))) 54 5) < am_s ((mu (mu m 54 ((am_s (44 + x4)).toNat) 99) 54 ((am_s (32 + x4)).toNat) (((mu m 54 ((am_s (44 + x4)).toNat) 99) 54 ((am_s (32 + x4)).toNat)) + (1 * ((mu m 54 ((am_s (44 + x4)).toNat) 99) 54 ((am_s (20 + x4)).toNat))))) 54 ((am_s (44 + x4)).toNat))) → rn fx 2 (0, 0) 195 11 [some (.inr (.inr (some 53))), some (.inl b), some (.inl x2), some (.inl (x3 + 1)), some (.inl (x4 + 1)), none, none, none] [] (st0 (mu (mu (mu m 54 ((am_s (44 + x4)).toNat) 99) 54 ((am_s (32 + x4)).toNat) (((mu m 54 ((am_s (44 + x4)).toNat) 99) 54 ((am_s (32 + x4)).toNat)) + (1 * ((mu m 54 ((am_s (44 + x4)).toNat) 99) 54 ((am_s (20 + x4)).toNat))))) 54 ((am_s (8 + x4)).toNat) 1)) o) ∧ (¬ (am_s ((mu (mu m 54 ((am_s (44 + x4)).toNat) 99) 54 ((am_s (32 + x4)).toNat) (((mu m 54 ((am_s (44 + x4)).toNat) 99) 54 ((am_s (32 + x4)).toNat)) + (1 * ((mu m 54 ((am_s (44 + x4)).toNat) 99) 54 ((am_s (20 + x4)).toNat))))) 54 5) < am_s ((mu (mu m 54 ((am_s (44 + x4)).toNat) 99) 54 ((am_s (32 + x4)).toNat) (((mu m 54 ((am_s (44 + x4)).toNat) 99) 54 ((am_s (32 + x4)).toNat)) + (1 * ((mu m 54 ((am_s (44 + x4)).toNat) 99) 54 ((am_s (20 + x4)).toNat))))) 54 ((am_s (44 + x4)).toNat))) → rn fx 2 (0, 0) 195 11 [some (.inr (.inr (some 53))), some (.inl b), some (.inl x2), some (.inl x3), some (.inl (x4 + 1)), none, none, none] [] (st0 (mu (mu m 54 ((am_s (44 + x4)).toNat) 99) 54 ((am_s (32 + x4)).toNat) (((mu m 54 ((am_s (44 + x4)).toNat) 99) 54 ((am_s (32 + x4)).toNat)) + (1 * ((mu m 54 ((am_s (44 + x4)).toNat) 99) 54 ((am_s (20 + x4)).toNat)))))) o)) ∧ (¬ (am_s (((mu m 54 ((am_s (44 + x4)).toNat) 99) 54 ((am_s (32 + x4)).toNat)) + (1 * ((mu m 54 ((am_s (44 + x4)).toNat) 99) 54 ((am_s (20 + x4)).toNat)))) ≤ am_s 100) → ((am_s ((mu (mu m 54 ((am_s (44 + x4)).toNat) 99) 54 ((am_s (32 + x4)).toNat) 100) 54 5) < am_s ((mu (mu m 54 ((am_s (44 + x4)).toNat) 99) 54 ((am_s (32 + x4)).toNat) 100) 54 ((am_s (44 + x4)).toNat))) → rn fx 2 (0, 0) 195 11 [some (.inr (.inr (some 53))), some (.inl b), some (.inl x2), some (.inl (x3 + 1)), some (.inl (x4 + 1)), none, none, none] [] (st0 (mu (mu (mu m 54 ((am_s (44 + x4)).toNat) 99) 54 ((am_s (32 + x4)).toNat) 100) 54 ((am_s (8 + x4)).toNat) 1)) o) ∧ (¬ (am_s ((mu (mu m 54 ((am_s (44 + x4)).toNat) 99) 54 ((am_s (32 + x4)).toNat) 100) 54 5) < am_s ((mu (mu m 54 ((am_s (44 + x4)).toNat) 99) 54 ((am_s (32 + x4)).toNat) 100) 54 ((am_s (44 + x4)).toNat))) → rn fx 2 (0, 0) 195 11 [some (.inr (.inr (some 53))), some (.inl b), some (.inl x2), some (.inl x3), some (.inl (x4 + 1)), none, none, none] [] (st0 (mu (mu m 54 ((am_s (44 + x4)).toNat) 99) 54 ((am_s (32 + x4)).toNat) 100)) o)))))) ∧ (¬ (am_s ((if (am_s b).toNat.testBit x4.toNat = true then 1 else 0)) = 0) → (0 ≤ am_s (32 + x4) ∧ am_s (32 + x4) < (168 : Nat)) ∧ ((0 ≤ am_s (20 + x4) ∧ am_s (20 + x4) < (168 : Nat)) ∧ (((am_s (((mu m 54 ((am_s (44 + x4)).toNat) 0) 54 ((am_s (32 + x4)).toNat)) + (2 * ((mu m 54 ((am_s (44 + x4)).toNat) 0) 54 ((am_s (20 + x4)).toNat)))) ≤ am_s 100) → ((am_s ((mu (mu m 54 ((am_s (44 + x4)).toNat) 0) 54 ((am_s (32 + x4)).toNat) (((mu m 54 ((am_s (44 + x4)).toNat) 0) 54 ((am_s (32 + x4)).toNat)) + (2 * ((mu m 54 ((am_s (44 + x4)).toNat) 0) 54 ((am_s (20 + x4)).toNat))))) 54 5) < am_s ((mu (mu m 54 ((am_s (44 + x4)).toNat) 0) 54 ((am_s (32 + x4)).toNat) (((mu m 54 ((am_s (44 + x4)).toNat) 0) 54 ((am_s (32 + x4)).toNat)) + (2 * ((mu m 54 ((am_s (44 + x4)).toNat) 0) 54 ((am_s (20 + x4)).toNat))))) 54 ((am_s (44 + x4)).toNat))) → rn fx 2 (0, 0) 195 11 [some (.inr (.inr (some 53))), some (.inl b), some (.inl x2), some (.inl (x3 + 1)), some (.inl (x4 + 1)), none, none, none] [] (st0 (mu (mu (mu m 54 ((am_s (44 + x4)).toNat) 0) 54 ((am_s (32 + x4)).toNat) (((mu m 54 ((am_s (44 + x4)).toNat) 0) 54 ((am_s (32 + x4)).toNat)) + (2 * ((mu m 54 ((am_s (44 + x4)).toNat) 0) 54 ((am_s (20 + x4)).toNat))))) 54 ((am_s (8 + x4)).toNat) 1)) o) ∧ (¬ (am_s ((mu (mu m 54 ((am_s (44 + x4)).toNat) 0) 54 ((am_s (32 + x4)).toNat) (((mu m 54 ((am_s (44 + x4)).toNat) 0) 54 ((am_s (32 + x4)).toNat)) + (2 * ((mu m 54 ((am_s (44 + x4)).toNat) 0) 54 ((am_s (20 + x4)).toNat))))) 54 5) < am_s ((mu (mu m 54 ((am_s (44 + x4)).toNat) 0) 54 ((am_s (32 + x4)).toNat) (((mu m 54 ((am_s (44 + x4)).toNat) 0) 54 ((am_s (32 + x4)).toNat)) + (2 * ((mu m 54 ((am_s (44 + x4)).toNat) 0) 54 ((am_s (20 + x4)).toNat))))) 54 ((am_s (44 + x4)).toNat))) → rn fx 2 (0, 0) 195 11 [some (.inr (.inr (some 53))), some (.inl b), some (.inl x2), some (.inl x3), some (.inl (x4 + 1)), none, none, none] [] (st0 (mu (mu m 54 ((am_s (44 + x4)).toNat) 0) 54 ((am_s (32 + x4)).toNat) (((mu m 54 ((am_s (44 + x4)).toNat) 0) 54 ((am_s (32 + x4)).toNat)) + (2 * ((mu m 54 ((am_s (44 + x4)).toNat) 0) 54 ((am_s (20 + x4)).toNat)))))) o)) ∧ (¬ (am_s (((mu m 54 ((am_s (44 + x4)).toNat) 0) 54 ((am_s (32 + x4)).toNat)) + (2 * ((mu m 54 ((am_s (44 + x4)).toNat) 0) 54 ((am_s (20 + x4)).toNat)))) ≤ am_s 100) → ((am_s ((mu (mu m 54 ((am_s (44 + x4)).toNat) 0) 54 ((am_s (32 + x4)).toNat) 100) 54 5) < am_s ((mu (mu m 54 ((am_s (44 + x4)).toNat) 0) 54 ((am_s (32 + x4)).toNat) 100) 54 ((am_s (44 + x4)).toNat))) → rn fx 2 (0, 0) 195 11 [some (.inr (.inr (some 53))), some (.inl b), some (.inl x2), some (.inl (x3 + 1)), some (.inl (x4 + 1)), none, none, none] [] (st0 (mu (mu (mu m 54 ((am_s (44 + x4)).toNat) 0) 54 ((am_s (32 + x4)).toNat) 100) 54 ((am_s (8 + x4)).toNat) 1)) o) ∧ (¬ (am_s ((mu (mu m 54 ((am_s (44 + x4)).toNat) 0) 54 ((am_s (32 + x4)).toNat) 100) 54 5) < am_s ((mu (mu m 54 ((am_s (44 + x4)).toNat) 0) 54 ((am_s (32 + x4)).toNat) 100) 54 ((am_s (44 + x4)).toNat))) → rn fx 2 (0, 0) 195 11 [some (.inr (.inr (some 53))), some (.inl b), some (.inl x2), some (.inl x3), some (.inl (x4 + 1)), none, none, none] [] (st0 (mu (mu m 54 ((am_s (44 + x4)).toNat) 0) 54 ((am_s (32 + x4)).toNat) 100)) o))))))))))) ∧ (¬ (¬ am_s (m 54 ((am_s (8 + x4)).toNat)) = am_s 3) → rn fx 2 (0, 0) 195 11 [some (.inr (.inr (some 53))), some (.inl b), some (.inl x2), some (.inl x3), some (.inl (x4 + 1)), none, none, none] [] (st0 m) o)))) : rn fx 2 (0, 0) 195 11 [some (.inr (.inr (some 53))), some (.inl b), some (.inl x2), some (.inl x3), some (.inl x4), none, none, none] [] (st0 m) o := by
  refine r_ld (pc' := 13) hM_195 d_195_11 rfl rfl ?_
  refine r_ld (pc' := 14) hM_195 d_195_13 rfl rfl ?_
  refine r_gR (pc' := 17) (v := 54) hM_195 d_195_14 rfl (by decide +kernel) ?_
  refine r_k (pc' := 18) (v := .inl 0) hM_195 d_195_17 rfl rfl ?_
  refine r_iae (pc' := 19) (n := 168) (z := (m 54 0)) hM_195 d_195_18 rfl rfl (by decide) (by rw [show (am_s 0).toNat = 0 by decide]) ?_
  refine r_ic (pc' := 242) (pc2 := 22) hM_195 d_195_19 (by decide) rfl (fun hz1 => ?_) (fun hz1 => ?_)
  · have H := H.1 hz1
    refine r_ld (pc' := 243) hM_195 d_195_242 rfl rfl ?_
    refine r_gR (pc' := 246) (v := 54) hM_195 d_195_243 rfl (by decide +kernel) ?_
    refine r_k (pc' := 247) (v := .inl 1) hM_195 d_195_246 rfl rfl ?_
    refine r_stk (pc' := 248) (st' := [.inl 1, .inr (.inr (some 54)), .inl 1, .inr (.inr (some 54))]) hM_195 d_195_247 rfl rfl ?_
    refine r_iae (pc' := 249) (n := 168) (z := (m 54 1)) hM_195 d_195_248 rfl rfl (by decide) (by rw [show (am_s 1).toNat = 1 by decide]) ?_
    refine r_k (pc' := 250) (v := .inl 1) hM_195 d_195_249 rfl rfl ?_
    refine r_b (pc' := 251) (z := ((m 54 1) + 1)) hM_195 d_195_250 rfl rfl ?_
    refine r_isk (pc' := 252) (n := 168) (k0 := 1) hM_195 d_195_251 rfl rfl (by decide) (by decide) ?_
    refine r_ld (pc' := 253) hM_195 d_195_252 rfl rfl ?_
    subst H
    exact rt_i hM_195 d_195_253 rfl
  · have H := H.2 hz1
    refine r_ld (pc' := 23) hM_195 d_195_22 rfl rfl ?_
    refine r_gR (pc' := 26) (v := 54) hM_195 d_195_23 rfl (by decide +kernel) ?_
    refine r_k (pc' := 28) (v := .inl 8) hM_195 d_195_26 rfl rfl ?_
    refine r_ld (pc' := 30) hM_195 d_195_28 rfl rfl ?_
    refine r_b (pc' := 31) (z := (8 + x4)) hM_195 d_195_30 rfl rfl ?_
    obtain ⟨hz2, H⟩ := H
    refine r_ia (pc' := 32) (n := 168) hM_195 d_195_31 rfl rfl hz2 ?_
    refine r_k (pc' := 33) (v := .inl 3) hM_195 d_195_32 rfl rfl ?_
    refine r_ic (pc' := 39) (pc2 := 36) hM_195 d_195_33 (by decide) rfl (fun hz3 => ?_) (fun hz3 => ?_)
    · have H := H.1 hz3
      refine r_ld (pc' := 40) hM_195 d_195_39 rfl rfl ?_
      refine r_gR (pc' := 43) (v := 54) hM_195 d_195_40 rfl (by decide +kernel) ?_
      refine r_k (pc' := 45) (v := .inl 8) hM_195 d_195_43 rfl rfl ?_
      refine r_ld (pc' := 47) hM_195 d_195_45 rfl rfl ?_
      refine r_b (pc' := 48) (z := (8 + x4)) hM_195 d_195_47 rfl rfl ?_
      refine r_ia (pc' := 49) (n := 168) hM_195 d_195_48 rfl rfl hz2 ?_
      refine r_if (pc' := 56) (pc2 := 52) hM_195 d_195_49 (by decide) rfl (fun hz4 => ?_) (fun hz4 => ?_)
      · have H := H.1 hz4
        refine r_k (pc' := 57) (v := .inl 0) hM_195 d_195_56 rfl rfl ?_
        refine r_sto (pc' := 59) (ls' := [some (.inr (.inr (some 53))), some (.inl b), some (.inl x2), some (.inl x3), some (.inl x4), some (.inl 0), none, none]) hM_195 d_195_57 rfl rfl ?_
        refine r_ld (pc' := 60) hM_195 d_195_59 rfl rfl ?_
        refine r_gR (pc' := 63) (v := 54) hM_195 d_195_60 rfl (by decide +kernel) ?_
        refine r_k (pc' := 65) (v := .inl 44) hM_195 d_195_63 rfl rfl ?_
        refine r_ld (pc' := 67) hM_195 d_195_65 rfl rfl ?_
        refine r_b (pc' := 68) (z := (44 + x4)) hM_195 d_195_67 rfl rfl ?_
        obtain ⟨hz5, H⟩ := H
        refine r_ia (pc' := 69) (n := 168) hM_195 d_195_68 rfl rfl hz5 ?_
        refine r_ld (pc' := 71) hM_195 d_195_69 rfl rfl ?_
        refine r_if (pc' := 87) (pc2 := 74) hM_195 d_195_71 (by decide) rfl (fun _ => ?_) (fun hc => absurd (show am_s 0 = 0 by decide) hc)
        refine r_k (pc' := 88) (v := .inl 1) hM_195 d_195_87 rfl rfl ?_
        refine r_b (pc' := 89) (z := ((m 54 ((am_s (44 + x4)).toNat)) + 1)) hM_195 d_195_88 rfl rfl ?_
        refine r_sto (pc' := 91) (ls' := [some (.inr (.inr (some 53))), some (.inl b), some (.inl x2), some (.inl x3), some (.inl x4), some (.inl 0), some (.inl ((m 54 ((am_s (44 + x4)).toNat)) + 1)), none]) hM_195 d_195_89 rfl rfl ?_
        refine r_ld (pc' := 92) hM_195 d_195_91 rfl rfl ?_
        refine r_gR (pc' := 95) (v := 54) hM_195 d_195_92 rfl (by decide +kernel) ?_
        refine r_k (pc' := 97) (v := .inl 44) hM_195 d_195_95 rfl rfl ?_
        refine r_ld (pc' := 99) hM_195 d_195_97 rfl rfl ?_
        refine r_b (pc' := 100) (z := (44 + x4)) hM_195 d_195_99 rfl rfl ?_
        refine r_ld (pc' := 101) hM_195 d_195_100 rfl rfl ?_
        refine r_stk (pc' := 102) (st' := [.inr (.inl (am_s b)), .inl (44 + x4), .inr (.inr (some 54))]) hM_195 d_195_101 rfl rfl ?_
        refine r_ld (pc' := 104) hM_195 d_195_102 rfl rfl ?_
        obtain ⟨hz6, H⟩ := H
        refine r_cl (pc' := 107) (c := (194, 2)) (a := [.inr (.inl (am_s b)), .inl x4]) (q := [.inl (44 + x4), .inr (.inr (some 54))]) hM_195 d_195_104 rfl (by decide +kernel) hM_194 rfl rfl rfl (Nat.le_of_ble_eq_true rfl) (Nat.le_of_ble_eq_true rfl) (Or.inl rfl) (n_194  m (am_s b) x4 hz6) (Nat.le_of_ble_eq_true rfl) ?_
        show rn fx 2 (0, 0) 195 107 [some (.inr (.inr (some 53))), some (.inl b), some (.inl x2), some (.inl x3), some (.inl x4), some (.inl 0), some (.inl ((m 54 ((am_s (44 + x4)).toNat)) + 1)), none] [.inl ((if (am_s b).toNat.testBit x4.toNat = true then 1 else 0)), .inl (44 + x4), .inr (.inr (some 54))] (st0 m) o
        refine r_if (pc' := 114) (pc2 := 110) hM_195 d_195_107 (by decide) rfl (fun hz7 => ?_) (fun hz7 => ?_)
        · have H := H.1 hz7
          refine r_ld (pc' := 116) hM_195 d_195_114 rfl rfl ?_
          refine r_k (pc' := 118) (v := .inl 99) hM_195 d_195_116 rfl rfl ?_
          refine r_ic (pc' := 126) (pc2 := 121) hM_195 d_195_118 (by decide) rfl (fun hz8 => ?_) (fun hz8 => ?_)
          · have H := H.1 hz8
            refine r_ld (pc' := 128) hM_195 d_195_126 rfl rfl ?_
            refine r_is (pc' := 129) (n := 168) hM_195 d_195_128 rfl rfl hz5 ?_
            refine r_ld (pc' := 131) hM_195 d_195_129 rfl rfl ?_
            refine r_if (pc' := 137) (pc2 := 134) hM_195 d_195_131 (by decide) rfl (fun hc => absurd hc (show ¬ (¬ am_s 0 = 0) by decide)) (fun _ => ?_)
            refine r_go (pc' := 236) hM_195 d_195_134 (by decide) ?_
            refine r_sto (pc' := 239) (ls' := [some (.inr (.inr (some 53))), some (.inl b), some (.inl x2), some (.inl x3), some (.inl (x4 + 1)), some (.inl 0), some (.inl ((m 54 ((am_s (44 + x4)).toNat)) + 1)), none]) hM_195 d_195_236 rfl rfl ?_
            refine r_go (pc' := 11) hM_195 d_195_239 (by decide) ?_
            exact rn_wk (by simp only [am_le, and_self]) H
          · have H := H.2 hz8
            refine r_k (pc' := 123) (v := .inl 99) hM_195 d_195_121 rfl rfl ?_
            refine r_go (pc' := 128) hM_195 d_195_123 (by decide) ?_
            refine r_is (pc' := 129) (n := 168) hM_195 d_195_128 rfl rfl hz5 ?_
            refine r_ld (pc' := 131) hM_195 d_195_129 rfl rfl ?_
            refine r_if (pc' := 137) (pc2 := 134) hM_195 d_195_131 (by decide) rfl (fun hc => absurd hc (show ¬ (¬ am_s 0 = 0) by decide)) (fun _ => ?_)
            refine r_go (pc' := 236) hM_195 d_195_134 (by decide) ?_
            refine r_sto (pc' := 239) (ls' := [some (.inr (.inr (some 53))), some (.inl b), some (.inl x2), some (.inl x3), some (.inl (x4 + 1)), some (.inl 0), some (.inl ((m 54 ((am_s (44 + x4)).toNat)) + 1)), none]) hM_195 d_195_236 rfl rfl ?_
            refine r_go (pc' := 11) hM_195 d_195_239 (by decide) ?_
            exact rn_wk (by simp only [am_le, and_self]) H
        · have H := H.2 hz7
          refine r_k (pc' := 111) (v := .inl 0) hM_195 d_195_110 rfl rfl ?_
          refine r_go (pc' := 128) hM_195 d_195_111 (by decide) ?_
          refine r_is (pc' := 129) (n := 168) hM_195 d_195_128 rfl rfl hz5 ?_
          refine r_ld (pc' := 131) hM_195 d_195_129 rfl rfl ?_
          refine r_if (pc' := 137) (pc2 := 134) hM_195 d_195_131 (by decide) rfl (fun hc => absurd hc (show ¬ (¬ am_s 0 = 0) by decide)) (fun _ => ?_)
          refine r_go (pc' := 236) hM_195 d_195_134 (by decide) ?_
          refine r_sto (pc' := 239) (ls' := [some (.inr (.inr (some 53))), some (.inl b), some (.inl x2), some (.inl x3), some (.inl (x4 + 1)), some (.inl 0), some (.inl ((m 54 ((am_s (44 + x4)).toNat)) + 1)), none]) hM_195 d_195_236 rfl rfl ?_
          refine r_go (pc' := 11) hM_195 d_195_239 (by decide) ?_
          exact rn_wk (by simp only [am_le, and_self]) H
      · have H := H.2 hz4
        refine r_k (pc' := 53) (v := .inl 1) hM_195 d_195_52 rfl rfl ?_
        refine r_go (pc' := 57) hM_195 d_195_53 (by decide) ?_
        refine r_sto (pc' := 59) (ls' := [some (.inr (.inr (some 53))), some (.inl b), some (.inl x2), some (.inl x3), some (.inl x4), some (.inl 1), none, none]) hM_195 d_195_57 rfl rfl ?_
        refine r_ld (pc' := 60) hM_195 d_195_59 rfl rfl ?_
        refine r_gR (pc' := 63) (v := 54) hM_195 d_195_60 rfl (by decide +kernel) ?_
        refine r_k (pc' := 65) (v := .inl 44) hM_195 d_195_63 rfl rfl ?_
        refine r_ld (pc' := 67) hM_195 d_195_65 rfl rfl ?_
        refine r_b (pc' := 68) (z := (44 + x4)) hM_195 d_195_67 rfl rfl ?_
        obtain ⟨hz9, H⟩ := H
        refine r_ia (pc' := 69) (n := 168) hM_195 d_195_68 rfl rfl hz9 ?_
        refine r_ld (pc' := 71) hM_195 d_195_69 rfl rfl ?_
        refine r_if (pc' := 87) (pc2 := 74) hM_195 d_195_71 (by decide) rfl (fun hc => absurd hc (show ¬ (am_s 1 = 0) by decide)) (fun _ => ?_)
        refine r_ld (pc' := 75) hM_195 d_195_74 rfl rfl ?_
        refine r_ld (pc' := 77) hM_195 d_195_75 rfl rfl ?_
        obtain ⟨hz10, H⟩ := H
        refine r_cl (pc' := 80) (c := (196, 2)) (a := [.inl x2, .inl x4]) (q := [.inl (m 54 ((am_s (44 + x4)).toNat))]) hM_195 d_195_77 rfl (by decide +kernel) hM_196 rfl rfl rfl (Nat.le_of_ble_eq_true rfl) (Nat.le_of_ble_eq_true rfl) (Or.inl rfl) (n_196  m x2 x4 hz10) (Nat.le_of_ble_eq_true rfl) ?_
        show rn fx 2 (0, 0) 195 80 [some (.inr (.inr (some 53))), some (.inl b), some (.inl x2), some (.inl x3), some (.inl x4), some (.inl 1), none, none] [.inl (bsd x2.toNat x4.toNat), .inl (m 54 ((am_s (44 + x4)).toNat))] (st0 m) o
        refine r_if (pc' := 87) (pc2 := 83) hM_195 d_195_80 (by decide) rfl (fun hz11 => ?_) (fun hz11 => ?_)
        · have H := H.1 hz11
          refine r_k (pc' := 88) (v := .inl 1) hM_195 d_195_87 rfl rfl ?_
          refine r_b (pc' := 89) (z := ((m 54 ((am_s (44 + x4)).toNat)) + 1)) hM_195 d_195_88 rfl rfl ?_
          refine r_sto (pc' := 91) (ls' := [some (.inr (.inr (some 53))), some (.inl b), some (.inl x2), some (.inl x3), some (.inl x4), some (.inl 1), some (.inl ((m 54 ((am_s (44 + x4)).toNat)) + 1)), none]) hM_195 d_195_89 rfl rfl ?_
          refine r_ld (pc' := 92) hM_195 d_195_91 rfl rfl ?_
          refine r_gR (pc' := 95) (v := 54) hM_195 d_195_92 rfl (by decide +kernel) ?_
          refine r_k (pc' := 97) (v := .inl 44) hM_195 d_195_95 rfl rfl ?_
          refine r_ld (pc' := 99) hM_195 d_195_97 rfl rfl ?_
          refine r_b (pc' := 100) (z := (44 + x4)) hM_195 d_195_99 rfl rfl ?_
          refine r_ld (pc' := 101) hM_195 d_195_100 rfl rfl ?_
          refine r_stk (pc' := 102) (st' := [.inr (.inl (am_s b)), .inl (44 + x4), .inr (.inr (some 54))]) hM_195 d_195_101 rfl rfl ?_
          refine r_ld (pc' := 104) hM_195 d_195_102 rfl rfl ?_
          obtain ⟨hz12, H⟩ := H
          refine r_cl (pc' := 107) (c := (194, 2)) (a := [.inr (.inl (am_s b)), .inl x4]) (q := [.inl (44 + x4), .inr (.inr (some 54))]) hM_195 d_195_104 rfl (by decide +kernel) hM_194 rfl rfl rfl (Nat.le_of_ble_eq_true rfl) (Nat.le_of_ble_eq_true rfl) (Or.inl rfl) (n_194  m (am_s b) x4 hz12) (Nat.le_of_ble_eq_true rfl) ?_
          show rn fx 2 (0, 0) 195 107 [some (.inr (.inr (some 53))), some (.inl b), some (.inl x2), some (.inl x3), some (.inl x4), some (.inl 1), some (.inl ((m 54 ((am_s (44 + x4)).toNat)) + 1)), none] [.inl ((if (am_s b).toNat.testBit x4.toNat = true then 1 else 0)), .inl (44 + x4), .inr (.inr (some 54))] (st0 m) o
          refine r_if (pc' := 114) (pc2 := 110) hM_195 d_195_107 (by decide) rfl (fun hz13 => ?_) (fun hz13 => ?_)
          · have H := H.1 hz13
            refine r_ld (pc' := 116) hM_195 d_195_114 rfl rfl ?_
            refine r_k (pc' := 118) (v := .inl 99) hM_195 d_195_116 rfl rfl ?_
            refine r_ic (pc' := 126) (pc2 := 121) hM_195 d_195_118 (by decide) rfl (fun hz14 => ?_) (fun hz14 => ?_)
            · have H := H.1 hz14
              refine r_ld (pc' := 128) hM_195 d_195_126 rfl rfl ?_
              refine r_is (pc' := 129) (n := 168) hM_195 d_195_128 rfl rfl hz9 ?_
              refine r_ld (pc' := 131) hM_195 d_195_129 rfl rfl ?_
              refine r_if (pc' := 137) (pc2 := 134) hM_195 d_195_131 (by decide) rfl (fun _ => ?_) (fun hc => absurd (show ¬ am_s 1 = 0 by decide) hc)
              refine r_ld (pc' := 138) hM_195 d_195_137 rfl rfl ?_
              refine r_gR (pc' := 141) (v := 54) hM_195 d_195_138 rfl (by decide +kernel) ?_
              refine r_k (pc' := 143) (v := .inl 32) hM_195 d_195_141 rfl rfl ?_
              refine r_ld (pc' := 145) hM_195 d_195_143 rfl rfl ?_
              refine r_b (pc' := 146) (z := (32 + x4)) hM_195 d_195_145 rfl rfl ?_
              obtain ⟨hz15, H⟩ := H
              refine r_ia (pc' := 147) (n := 168) hM_195 d_195_146 rfl rfl hz15 ?_
              refine r_ld (pc' := 148) hM_195 d_195_147 rfl rfl ?_
              refine r_stk (pc' := 149) (st' := [.inr (.inl (am_s b)), .inl ((mu m 54 ((am_s (44 + x4)).toNat) ((m 54 ((am_s (44 + x4)).toNat)) + 1)) 54 ((am_s (32 + x4)).toNat))]) hM_195 d_195_148 rfl rfl ?_
              refine r_ld (pc' := 151) hM_195 d_195_149 rfl rfl ?_
              refine r_cl (pc' := 154) (c := (194, 2)) (a := [.inr (.inl (am_s b)), .inl x4]) (q := [.inl ((mu m 54 ((am_s (44 + x4)).toNat) ((m 54 ((am_s (44 + x4)).toNat)) + 1)) 54 ((am_s (32 + x4)).toNat))]) hM_195 d_195_151 rfl (by decide +kernel) hM_194 rfl rfl rfl (Nat.le_of_ble_eq_true rfl) (Nat.le_of_ble_eq_true rfl) (Or.inl rfl) (n_194  (mu m 54 ((am_s (44 + x4)).toNat) ((m 54 ((am_s (44 + x4)).toNat)) + 1)) (am_s b) x4 hz12) (Nat.le_of_ble_eq_true rfl) ?_
              show rn fx 2 (0, 0) 195 154 [some (.inr (.inr (some 53))), some (.inl b), some (.inl x2), some (.inl x3), some (.inl x4), some (.inl 1), some (.inl ((m 54 ((am_s (44 + x4)).toNat)) + 1)), none] [.inl ((if (am_s b).toNat.testBit x4.toNat = true then 1 else 0)), .inl ((mu m 54 ((am_s (44 + x4)).toNat) ((m 54 ((am_s (44 + x4)).toNat)) + 1)) 54 ((am_s (32 + x4)).toNat))] (st0 (mu m 54 ((am_s (44 + x4)).toNat) ((m 54 ((am_s (44 + x4)).toNat)) + 1))) o
              refine r_if (pc' := 161) (pc2 := 157) hM_195 d_195_154 (by decide) rfl (fun _ => ?_) (fun hc => absurd hz13 hc)
              refine r_k (pc' := 162) (v := .inl 1) hM_195 d_195_161 rfl rfl ?_
              refine r_ld (pc' := 163) hM_195 d_195_162 rfl rfl ?_
              refine r_gR (pc' := 166) (v := 54) hM_195 d_195_163 rfl (by decide +kernel) ?_
              refine r_k (pc' := 168) (v := .inl 20) hM_195 d_195_166 rfl rfl ?_
              refine r_ld (pc' := 170) hM_195 d_195_168 rfl rfl ?_
              refine r_b (pc' := 171) (z := (20 + x4)) hM_195 d_195_170 rfl rfl ?_
              obtain ⟨hz16, H⟩ := H
              refine r_ia (pc' := 172) (n := 168) hM_195 d_195_171 rfl rfl hz16 ?_
              refine r_b (pc' := 173) (z := (1 * ((mu m 54 ((am_s (44 + x4)).toNat) ((m 54 ((am_s (44 + x4)).toNat)) + 1)) 54 ((am_s (20 + x4)).toNat)))) hM_195 d_195_172 rfl rfl ?_
              refine r_b (pc' := 174) (z := (((mu m 54 ((am_s (44 + x4)).toNat) ((m 54 ((am_s (44 + x4)).toNat)) + 1)) 54 ((am_s (32 + x4)).toNat)) + (1 * ((mu m 54 ((am_s (44 + x4)).toNat) ((m 54 ((am_s (44 + x4)).toNat)) + 1)) 54 ((am_s (20 + x4)).toNat))))) hM_195 d_195_173 rfl rfl ?_
              refine r_sto (pc' := 176) (ls' := [some (.inr (.inr (some 53))), some (.inl b), some (.inl x2), some (.inl x3), some (.inl x4), some (.inl 1), some (.inl ((m 54 ((am_s (44 + x4)).toNat)) + 1)), some (.inl (((mu m 54 ((am_s (44 + x4)).toNat) ((m 54 ((am_s (44 + x4)).toNat)) + 1)) 54 ((am_s (32 + x4)).toNat)) + (1 * ((mu m 54 ((am_s (44 + x4)).toNat) ((m 54 ((am_s (44 + x4)).toNat)) + 1)) 54 ((am_s (20 + x4)).toNat)))))]) hM_195 d_195_174 rfl rfl ?_
              refine r_ld (pc' := 177) hM_195 d_195_176 rfl rfl ?_
              refine r_gR (pc' := 180) (v := 54) hM_195 d_195_177 rfl (by decide +kernel) ?_
              refine r_k (pc' := 182) (v := .inl 32) hM_195 d_195_180 rfl rfl ?_
              refine r_ld (pc' := 184) hM_195 d_195_182 rfl rfl ?_
              refine r_b (pc' := 185) (z := (32 + x4)) hM_195 d_195_184 rfl rfl ?_
              refine r_ld (pc' := 187) hM_195 d_195_185 rfl rfl ?_
              refine r_k (pc' := 189) (v := .inl 100) hM_195 d_195_187 rfl rfl ?_
              refine r_ic (pc' := 197) (pc2 := 192) hM_195 d_195_189 (by decide) rfl (fun hz17 => ?_) (fun hz17 => ?_)
              · have H := H.1 hz17
                refine r_ld (pc' := 199) hM_195 d_195_197 rfl rfl ?_
                refine r_is (pc' := 200) (n := 168) hM_195 d_195_199 rfl rfl hz15 ?_
                refine r_ld (pc' := 201) hM_195 d_195_200 rfl rfl ?_
                refine r_gR (pc' := 204) (v := 54) hM_195 d_195_201 rfl (by decide +kernel) ?_
                refine r_k (pc' := 206) (v := .inl 44) hM_195 d_195_204 rfl rfl ?_
                refine r_ld (pc' := 208) hM_195 d_195_206 rfl rfl ?_
                refine r_b (pc' := 209) (z := (44 + x4)) hM_195 d_195_208 rfl rfl ?_
                refine r_ia (pc' := 210) (n := 168) hM_195 d_195_209 rfl rfl hz9 ?_
                refine r_ld (pc' := 211) hM_195 d_195_210 rfl rfl ?_
                refine r_gR (pc' := 214) (v := 54) hM_195 d_195_211 rfl (by decide +kernel) ?_
                refine r_k (pc' := 215) (v := .inl 5) hM_195 d_195_214 rfl rfl ?_
                refine r_iae (pc' := 216) (n := 168) (z := ((mu (mu m 54 ((am_s (44 + x4)).toNat) ((m 54 ((am_s (44 + x4)).toNat)) + 1)) 54 ((am_s (32 + x4)).toNat) (((mu m 54 ((am_s (44 + x4)).toNat) ((m 54 ((am_s (44 + x4)).toNat)) + 1)) 54 ((am_s (32 + x4)).toNat)) + (1 * ((mu m 54 ((am_s (44 + x4)).toNat) ((m 54 ((am_s (44 + x4)).toNat)) + 1)) 54 ((am_s (20 + x4)).toNat))))) 54 5)) hM_195 d_195_215 rfl rfl (by decide) (by rw [show (am_s 5).toNat = 5 by decide]) ?_
                refine r_ic (pc' := 222) (pc2 := 219) hM_195 d_195_216 (by decide) rfl (fun hz18 => ?_) (fun hz18 => ?_)
                · have H := H.1 hz18
                  refine r_ld (pc' := 223) hM_195 d_195_222 rfl rfl ?_
                  refine r_gR (pc' := 226) (v := 54) hM_195 d_195_223 rfl (by decide +kernel) ?_
                  refine r_k (pc' := 228) (v := .inl 8) hM_195 d_195_226 rfl rfl ?_
                  refine r_ld (pc' := 230) hM_195 d_195_228 rfl rfl ?_
                  refine r_b (pc' := 231) (z := (8 + x4)) hM_195 d_195_230 rfl rfl ?_
                  refine r_k (pc' := 232) (v := .inl 1) hM_195 d_195_231 rfl rfl ?_
                  refine r_is (pc' := 233) (n := 168) hM_195 d_195_232 rfl rfl hz2 ?_
                  refine r_sto (pc' := 236) (ls' := [some (.inr (.inr (some 53))), some (.inl b), some (.inl x2), some (.inl (x3 + 1)), some (.inl x4), some (.inl 1), some (.inl ((m 54 ((am_s (44 + x4)).toNat)) + 1)), some (.inl (((mu m 54 ((am_s (44 + x4)).toNat) ((m 54 ((am_s (44 + x4)).toNat)) + 1)) 54 ((am_s (32 + x4)).toNat)) + (1 * ((mu m 54 ((am_s (44 + x4)).toNat) ((m 54 ((am_s (44 + x4)).toNat)) + 1)) 54 ((am_s (20 + x4)).toNat)))))]) hM_195 d_195_233 rfl rfl ?_
                  refine r_sto (pc' := 239) (ls' := [some (.inr (.inr (some 53))), some (.inl b), some (.inl x2), some (.inl (x3 + 1)), some (.inl (x4 + 1)), some (.inl 1), some (.inl ((m 54 ((am_s (44 + x4)).toNat)) + 1)), some (.inl (((mu m 54 ((am_s (44 + x4)).toNat) ((m 54 ((am_s (44 + x4)).toNat)) + 1)) 54 ((am_s (32 + x4)).toNat)) + (1 * ((mu m 54 ((am_s (44 + x4)).toNat) ((m 54 ((am_s (44 + x4)).toNat)) + 1)) 54 ((am_s (20 + x4)).toNat)))))]) hM_195 d_195_236 rfl rfl ?_
                  refine r_go (pc' := 11) hM_195 d_195_239 (by decide) ?_
                  exact rn_wk (by simp only [am_le, and_self]) H
                · have H := H.2 hz18
                  refine r_go (pc' := 236) hM_195 d_195_219 (by decide) ?_
                  refine r_sto (pc' := 239) (ls' := [some (.inr (.inr (some 53))), some (.inl b), some (.inl x2), some (.inl x3), some (.inl (x4 + 1)), some (.inl 1), some (.inl ((m 54 ((am_s (44 + x4)).toNat)) + 1)), some (.inl (((mu m 54 ((am_s (44 + x4)).toNat) ((m 54 ((am_s (44 + x4)).toNat)) + 1)) 54 ((am_s (32 + x4)).toNat)) + (1 * ((mu m 54 ((am_s (44 + x4)).toNat) ((m 54 ((am_s (44 + x4)).toNat)) + 1)) 54 ((am_s (20 + x4)).toNat)))))]) hM_195 d_195_236 rfl rfl ?_
                  refine r_go (pc' := 11) hM_195 d_195_239 (by decide) ?_
                  exact rn_wk (by simp only [am_le, and_self]) H
              · have H := H.2 hz17
                refine r_k (pc' := 194) (v := .inl 100) hM_195 d_195_192 rfl rfl ?_
                refine r_go (pc' := 199) hM_195 d_195_194 (by decide) ?_
                refine r_is (pc' := 200) (n := 168) hM_195 d_195_199 rfl rfl hz15 ?_
                refine r_ld (pc' := 201) hM_195 d_195_200 rfl rfl ?_
                refine r_gR (pc' := 204) (v := 54) hM_195 d_195_201 rfl (by decide +kernel) ?_
                refine r_k (pc' := 206) (v := .inl 44) hM_195 d_195_204 rfl rfl ?_
                refine r_ld (pc' := 208) hM_195 d_195_206 rfl rfl ?_
                refine r_b (pc' := 209) (z := (44 + x4)) hM_195 d_195_208 rfl rfl ?_
                refine r_ia (pc' := 210) (n := 168) hM_195 d_195_209 rfl rfl hz9 ?_
                refine r_ld (pc' := 211) hM_195 d_195_210 rfl rfl ?_
                refine r_gR (pc' := 214) (v := 54) hM_195 d_195_211 rfl (by decide +kernel) ?_
                refine r_k (pc' := 215) (v := .inl 5) hM_195 d_195_214 rfl rfl ?_
                refine r_iae (pc' := 216) (n := 168) (z := ((mu (mu m 54 ((am_s (44 + x4)).toNat) ((m 54 ((am_s (44 + x4)).toNat)) + 1)) 54 ((am_s (32 + x4)).toNat) 100) 54 5)) hM_195 d_195_215 rfl rfl (by decide) (by rw [show (am_s 5).toNat = 5 by decide]) ?_
                refine r_ic (pc' := 222) (pc2 := 219) hM_195 d_195_216 (by decide) rfl (fun hz19 => ?_) (fun hz19 => ?_)
                · have H := H.1 hz19
                  refine r_ld (pc' := 223) hM_195 d_195_222 rfl rfl ?_
                  refine r_gR (pc' := 226) (v := 54) hM_195 d_195_223 rfl (by decide +kernel) ?_
                  refine r_k (pc' := 228) (v := .inl 8) hM_195 d_195_226 rfl rfl ?_
                  refine r_ld (pc' := 230) hM_195 d_195_228 rfl rfl ?_
                  refine r_b (pc' := 231) (z := (8 + x4)) hM_195 d_195_230 rfl rfl ?_
                  refine r_k (pc' := 232) (v := .inl 1) hM_195 d_195_231 rfl rfl ?_
                  refine r_is (pc' := 233) (n := 168) hM_195 d_195_232 rfl rfl hz2 ?_
                  refine r_sto (pc' := 236) (ls' := [some (.inr (.inr (some 53))), some (.inl b), some (.inl x2), some (.inl (x3 + 1)), some (.inl x4), some (.inl 1), some (.inl ((m 54 ((am_s (44 + x4)).toNat)) + 1)), some (.inl (((mu m 54 ((am_s (44 + x4)).toNat) ((m 54 ((am_s (44 + x4)).toNat)) + 1)) 54 ((am_s (32 + x4)).toNat)) + (1 * ((mu m 54 ((am_s (44 + x4)).toNat) ((m 54 ((am_s (44 + x4)).toNat)) + 1)) 54 ((am_s (20 + x4)).toNat)))))]) hM_195 d_195_233 rfl rfl ?_
                  refine r_sto (pc' := 239) (ls' := [some (.inr (.inr (some 53))), some (.inl b), some (.inl x2), some (.inl (x3 + 1)), some (.inl (x4 + 1)), some (.inl 1), some (.inl ((m 54 ((am_s (44 + x4)).toNat)) + 1)), some (.inl (((mu m 54 ((am_s (44 + x4)).toNat) ((m 54 ((am_s (44 + x4)).toNat)) + 1)) 54 ((am_s (32 + x4)).toNat)) + (1 * ((mu m 54 ((am_s (44 + x4)).toNat) ((m 54 ((am_s (44 + x4)).toNat)) + 1)) 54 ((am_s (20 + x4)).toNat)))))]) hM_195 d_195_236 rfl rfl ?_
                  refine r_go (pc' := 11) hM_195 d_195_239 (by decide) ?_
                  exact rn_wk (by simp only [am_le, and_self]) H
                · have H := H.2 hz19
                  refine r_go (pc' := 236) hM_195 d_195_219 (by decide) ?_
                  refine r_sto (pc' := 239) (ls' := [some (.inr (.inr (some 53))), some (.inl b), some (.inl x2), some (.inl x3), some (.inl (x4 + 1)), some (.inl 1), some (.inl ((m 54 ((am_s (44 + x4)).toNat)) + 1)), some (.inl (((mu m 54 ((am_s (44 + x4)).toNat) ((m 54 ((am_s (44 + x4)).toNat)) + 1)) 54 ((am_s (32 + x4)).toNat)) + (1 * ((mu m 54 ((am_s (44 + x4)).toNat) ((m 54 ((am_s (44 + x4)).toNat)) + 1)) 54 ((am_s (20 + x4)).toNat)))))]) hM_195 d_195_236 rfl rfl ?_
                  refine r_go (pc' := 11) hM_195 d_195_239 (by decide) ?_
                  exact rn_wk (by simp only [am_le, and_self]) H
            · have H := H.2 hz14
              refine r_k (pc' := 123) (v := .inl 99) hM_195 d_195_121 rfl rfl ?_
              refine r_go (pc' := 128) hM_195 d_195_123 (by decide) ?_
              refine r_is (pc' := 129) (n := 168) hM_195 d_195_128 rfl rfl hz9 ?_
              refine r_ld (pc' := 131) hM_195 d_195_129 rfl rfl ?_
              refine r_if (pc' := 137) (pc2 := 134) hM_195 d_195_131 (by decide) rfl (fun _ => ?_) (fun hc => absurd (show ¬ am_s 1 = 0 by decide) hc)
              refine r_ld (pc' := 138) hM_195 d_195_137 rfl rfl ?_
              refine r_gR (pc' := 141) (v := 54) hM_195 d_195_138 rfl (by decide +kernel) ?_
              refine r_k (pc' := 143) (v := .inl 32) hM_195 d_195_141 rfl rfl ?_
              refine r_ld (pc' := 145) hM_195 d_195_143 rfl rfl ?_
              refine r_b (pc' := 146) (z := (32 + x4)) hM_195 d_195_145 rfl rfl ?_
              obtain ⟨hz20, H⟩ := H
              refine r_ia (pc' := 147) (n := 168) hM_195 d_195_146 rfl rfl hz20 ?_
              refine r_ld (pc' := 148) hM_195 d_195_147 rfl rfl ?_
              refine r_stk (pc' := 149) (st' := [.inr (.inl (am_s b)), .inl ((mu m 54 ((am_s (44 + x4)).toNat) 99) 54 ((am_s (32 + x4)).toNat))]) hM_195 d_195_148 rfl rfl ?_
              refine r_ld (pc' := 151) hM_195 d_195_149 rfl rfl ?_
              refine r_cl (pc' := 154) (c := (194, 2)) (a := [.inr (.inl (am_s b)), .inl x4]) (q := [.inl ((mu m 54 ((am_s (44 + x4)).toNat) 99) 54 ((am_s (32 + x4)).toNat))]) hM_195 d_195_151 rfl (by decide +kernel) hM_194 rfl rfl rfl (Nat.le_of_ble_eq_true rfl) (Nat.le_of_ble_eq_true rfl) (Or.inl rfl) (n_194  (mu m 54 ((am_s (44 + x4)).toNat) 99) (am_s b) x4 hz12) (Nat.le_of_ble_eq_true rfl) ?_
              show rn fx 2 (0, 0) 195 154 [some (.inr (.inr (some 53))), some (.inl b), some (.inl x2), some (.inl x3), some (.inl x4), some (.inl 1), some (.inl ((m 54 ((am_s (44 + x4)).toNat)) + 1)), none] [.inl ((if (am_s b).toNat.testBit x4.toNat = true then 1 else 0)), .inl ((mu m 54 ((am_s (44 + x4)).toNat) 99) 54 ((am_s (32 + x4)).toNat))] (st0 (mu m 54 ((am_s (44 + x4)).toNat) 99)) o
              refine r_if (pc' := 161) (pc2 := 157) hM_195 d_195_154 (by decide) rfl (fun _ => ?_) (fun hc => absurd hz13 hc)
              refine r_k (pc' := 162) (v := .inl 1) hM_195 d_195_161 rfl rfl ?_
              refine r_ld (pc' := 163) hM_195 d_195_162 rfl rfl ?_
              refine r_gR (pc' := 166) (v := 54) hM_195 d_195_163 rfl (by decide +kernel) ?_
              refine r_k (pc' := 168) (v := .inl 20) hM_195 d_195_166 rfl rfl ?_
              refine r_ld (pc' := 170) hM_195 d_195_168 rfl rfl ?_
              refine r_b (pc' := 171) (z := (20 + x4)) hM_195 d_195_170 rfl rfl ?_
              obtain ⟨hz21, H⟩ := H
              refine r_ia (pc' := 172) (n := 168) hM_195 d_195_171 rfl rfl hz21 ?_
              refine r_b (pc' := 173) (z := (1 * ((mu m 54 ((am_s (44 + x4)).toNat) 99) 54 ((am_s (20 + x4)).toNat)))) hM_195 d_195_172 rfl rfl ?_
              refine r_b (pc' := 174) (z := (((mu m 54 ((am_s (44 + x4)).toNat) 99) 54 ((am_s (32 + x4)).toNat)) + (1 * ((mu m 54 ((am_s (44 + x4)).toNat) 99) 54 ((am_s (20 + x4)).toNat))))) hM_195 d_195_173 rfl rfl ?_
              refine r_sto (pc' := 176) (ls' := [some (.inr (.inr (some 53))), some (.inl b), some (.inl x2), some (.inl x3), some (.inl x4), some (.inl 1), some (.inl ((m 54 ((am_s (44 + x4)).toNat)) + 1)), some (.inl (((mu m 54 ((am_s (44 + x4)).toNat) 99) 54 ((am_s (32 + x4)).toNat)) + (1 * ((mu m 54 ((am_s (44 + x4)).toNat) 99) 54 ((am_s (20 + x4)).toNat)))))]) hM_195 d_195_174 rfl rfl ?_
              refine r_ld (pc' := 177) hM_195 d_195_176 rfl rfl ?_
              refine r_gR (pc' := 180) (v := 54) hM_195 d_195_177 rfl (by decide +kernel) ?_
              refine r_k (pc' := 182) (v := .inl 32) hM_195 d_195_180 rfl rfl ?_
              refine r_ld (pc' := 184) hM_195 d_195_182 rfl rfl ?_
              refine r_b (pc' := 185) (z := (32 + x4)) hM_195 d_195_184 rfl rfl ?_
              refine r_ld (pc' := 187) hM_195 d_195_185 rfl rfl ?_
              refine r_k (pc' := 189) (v := .inl 100) hM_195 d_195_187 rfl rfl ?_
              refine r_ic (pc' := 197) (pc2 := 192) hM_195 d_195_189 (by decide) rfl (fun hz22 => ?_) (fun hz22 => ?_)
              · have H := H.1 hz22
                refine r_ld (pc' := 199) hM_195 d_195_197 rfl rfl ?_
                refine r_is (pc' := 200) (n := 168) hM_195 d_195_199 rfl rfl hz20 ?_
                refine r_ld (pc' := 201) hM_195 d_195_200 rfl rfl ?_
                refine r_gR (pc' := 204) (v := 54) hM_195 d_195_201 rfl (by decide +kernel) ?_
                refine r_k (pc' := 206) (v := .inl 44) hM_195 d_195_204 rfl rfl ?_
                refine r_ld (pc' := 208) hM_195 d_195_206 rfl rfl ?_
                refine r_b (pc' := 209) (z := (44 + x4)) hM_195 d_195_208 rfl rfl ?_
                refine r_ia (pc' := 210) (n := 168) hM_195 d_195_209 rfl rfl hz9 ?_
                refine r_ld (pc' := 211) hM_195 d_195_210 rfl rfl ?_
                refine r_gR (pc' := 214) (v := 54) hM_195 d_195_211 rfl (by decide +kernel) ?_
                refine r_k (pc' := 215) (v := .inl 5) hM_195 d_195_214 rfl rfl ?_
                refine r_iae (pc' := 216) (n := 168) (z := ((mu (mu m 54 ((am_s (44 + x4)).toNat) 99) 54 ((am_s (32 + x4)).toNat) (((mu m 54 ((am_s (44 + x4)).toNat) 99) 54 ((am_s (32 + x4)).toNat)) + (1 * ((mu m 54 ((am_s (44 + x4)).toNat) 99) 54 ((am_s (20 + x4)).toNat))))) 54 5)) hM_195 d_195_215 rfl rfl (by decide) (by rw [show (am_s 5).toNat = 5 by decide]) ?_
                refine r_ic (pc' := 222) (pc2 := 219) hM_195 d_195_216 (by decide) rfl (fun hz23 => ?_) (fun hz23 => ?_)
                · have H := H.1 hz23
                  refine r_ld (pc' := 223) hM_195 d_195_222 rfl rfl ?_
                  refine r_gR (pc' := 226) (v := 54) hM_195 d_195_223 rfl (by decide +kernel) ?_
                  refine r_k (pc' := 228) (v := .inl 8) hM_195 d_195_226 rfl rfl ?_
                  refine r_ld (pc' := 230) hM_195 d_195_228 rfl rfl ?_
                  refine r_b (pc' := 231) (z := (8 + x4)) hM_195 d_195_230 rfl rfl ?_
                  refine r_k (pc' := 232) (v := .inl 1) hM_195 d_195_231 rfl rfl ?_
                  refine r_is (pc' := 233) (n := 168) hM_195 d_195_232 rfl rfl hz2 ?_
                  refine r_sto (pc' := 236) (ls' := [some (.inr (.inr (some 53))), some (.inl b), some (.inl x2), some (.inl (x3 + 1)), some (.inl x4), some (.inl 1), some (.inl ((m 54 ((am_s (44 + x4)).toNat)) + 1)), some (.inl (((mu m 54 ((am_s (44 + x4)).toNat) 99) 54 ((am_s (32 + x4)).toNat)) + (1 * ((mu m 54 ((am_s (44 + x4)).toNat) 99) 54 ((am_s (20 + x4)).toNat)))))]) hM_195 d_195_233 rfl rfl ?_
                  refine r_sto (pc' := 239) (ls' := [some (.inr (.inr (some 53))), some (.inl b), some (.inl x2), some (.inl (x3 + 1)), some (.inl (x4 + 1)), some (.inl 1), some (.inl ((m 54 ((am_s (44 + x4)).toNat)) + 1)), some (.inl (((mu m 54 ((am_s (44 + x4)).toNat) 99) 54 ((am_s (32 + x4)).toNat)) + (1 * ((mu m 54 ((am_s (44 + x4)).toNat) 99) 54 ((am_s (20 + x4)).toNat)))))]) hM_195 d_195_236 rfl rfl ?_
                  refine r_go (pc' := 11) hM_195 d_195_239 (by decide) ?_
                  exact rn_wk (by simp only [am_le, and_self]) H
                · have H := H.2 hz23
                  refine r_go (pc' := 236) hM_195 d_195_219 (by decide) ?_
                  refine r_sto (pc' := 239) (ls' := [some (.inr (.inr (some 53))), some (.inl b), some (.inl x2), some (.inl x3), some (.inl (x4 + 1)), some (.inl 1), some (.inl ((m 54 ((am_s (44 + x4)).toNat)) + 1)), some (.inl (((mu m 54 ((am_s (44 + x4)).toNat) 99) 54 ((am_s (32 + x4)).toNat)) + (1 * ((mu m 54 ((am_s (44 + x4)).toNat) 99) 54 ((am_s (20 + x4)).toNat)))))]) hM_195 d_195_236 rfl rfl ?_
                  refine r_go (pc' := 11) hM_195 d_195_239 (by decide) ?_
                  exact rn_wk (by simp only [am_le, and_self]) H
              · have H := H.2 hz22
                refine r_k (pc' := 194) (v := .inl 100) hM_195 d_195_192 rfl rfl ?_
                refine r_go (pc' := 199) hM_195 d_195_194 (by decide) ?_
                refine r_is (pc' := 200) (n := 168) hM_195 d_195_199 rfl rfl hz20 ?_
                refine r_ld (pc' := 201) hM_195 d_195_200 rfl rfl ?_
                refine r_gR (pc' := 204) (v := 54) hM_195 d_195_201 rfl (by decide +kernel) ?_
                refine r_k (pc' := 206) (v := .inl 44) hM_195 d_195_204 rfl rfl ?_
                refine r_ld (pc' := 208) hM_195 d_195_206 rfl rfl ?_
                refine r_b (pc' := 209) (z := (44 + x4)) hM_195 d_195_208 rfl rfl ?_
                refine r_ia (pc' := 210) (n := 168) hM_195 d_195_209 rfl rfl hz9 ?_
                refine r_ld (pc' := 211) hM_195 d_195_210 rfl rfl ?_
                refine r_gR (pc' := 214) (v := 54) hM_195 d_195_211 rfl (by decide +kernel) ?_
                refine r_k (pc' := 215) (v := .inl 5) hM_195 d_195_214 rfl rfl ?_
                refine r_iae (pc' := 216) (n := 168) (z := ((mu (mu m 54 ((am_s (44 + x4)).toNat) 99) 54 ((am_s (32 + x4)).toNat) 100) 54 5)) hM_195 d_195_215 rfl rfl (by decide) (by rw [show (am_s 5).toNat = 5 by decide]) ?_
                refine r_ic (pc' := 222) (pc2 := 219) hM_195 d_195_216 (by decide) rfl (fun hz24 => ?_) (fun hz24 => ?_)
                · have H := H.1 hz24
                  refine r_ld (pc' := 223) hM_195 d_195_222 rfl rfl ?_
                  refine r_gR (pc' := 226) (v := 54) hM_195 d_195_223 rfl (by decide +kernel) ?_
                  refine r_k (pc' := 228) (v := .inl 8) hM_195 d_195_226 rfl rfl ?_
                  refine r_ld (pc' := 230) hM_195 d_195_228 rfl rfl ?_
                  refine r_b (pc' := 231) (z := (8 + x4)) hM_195 d_195_230 rfl rfl ?_
                  refine r_k (pc' := 232) (v := .inl 1) hM_195 d_195_231 rfl rfl ?_
                  refine r_is (pc' := 233) (n := 168) hM_195 d_195_232 rfl rfl hz2 ?_
                  refine r_sto (pc' := 236) (ls' := [some (.inr (.inr (some 53))), some (.inl b), some (.inl x2), some (.inl (x3 + 1)), some (.inl x4), some (.inl 1), some (.inl ((m 54 ((am_s (44 + x4)).toNat)) + 1)), some (.inl (((mu m 54 ((am_s (44 + x4)).toNat) 99) 54 ((am_s (32 + x4)).toNat)) + (1 * ((mu m 54 ((am_s (44 + x4)).toNat) 99) 54 ((am_s (20 + x4)).toNat)))))]) hM_195 d_195_233 rfl rfl ?_
                  refine r_sto (pc' := 239) (ls' := [some (.inr (.inr (some 53))), some (.inl b), some (.inl x2), some (.inl (x3 + 1)), some (.inl (x4 + 1)), some (.inl 1), some (.inl ((m 54 ((am_s (44 + x4)).toNat)) + 1)), some (.inl (((mu m 54 ((am_s (44 + x4)).toNat) 99) 54 ((am_s (32 + x4)).toNat)) + (1 * ((mu m 54 ((am_s (44 + x4)).toNat) 99) 54 ((am_s (20 + x4)).toNat)))))]) hM_195 d_195_236 rfl rfl ?_
                  refine r_go (pc' := 11) hM_195 d_195_239 (by decide) ?_
                  exact rn_wk (by simp only [am_le, and_self]) H
                · have H := H.2 hz24
                  refine r_go (pc' := 236) hM_195 d_195_219 (by decide) ?_
                  refine r_sto (pc' := 239) (ls' := [some (.inr (.inr (some 53))), some (.inl b), some (.inl x2), some (.inl x3), some (.inl (x4 + 1)), some (.inl 1), some (.inl ((m 54 ((am_s (44 + x4)).toNat)) + 1)), some (.inl (((mu m 54 ((am_s (44 + x4)).toNat) 99) 54 ((am_s (32 + x4)).toNat)) + (1 * ((mu m 54 ((am_s (44 + x4)).toNat) 99) 54 ((am_s (20 + x4)).toNat)))))]) hM_195 d_195_236 rfl rfl ?_
                  refine r_go (pc' := 11) hM_195 d_195_239 (by decide) ?_
                  exact rn_wk (by simp only [am_le, and_self]) H
          · have H := H.2 hz13
            refine r_k (pc' := 111) (v := .inl 0) hM_195 d_195_110 rfl rfl ?_
            refine r_go (pc' := 128) hM_195 d_195_111 (by decide) ?_
            refine r_is (pc' := 129) (n := 168) hM_195 d_195_128 rfl rfl hz9 ?_
            refine r_ld (pc' := 131) hM_195 d_195_129 rfl rfl ?_
            refine r_if (pc' := 137) (pc2 := 134) hM_195 d_195_131 (by decide) rfl (fun _ => ?_) (fun hc => absurd (show ¬ am_s 1 = 0 by decide) hc)
            refine r_ld (pc' := 138) hM_195 d_195_137 rfl rfl ?_
            refine r_gR (pc' := 141) (v := 54) hM_195 d_195_138 rfl (by decide +kernel) ?_
            refine r_k (pc' := 143) (v := .inl 32) hM_195 d_195_141 rfl rfl ?_
            refine r_ld (pc' := 145) hM_195 d_195_143 rfl rfl ?_
            refine r_b (pc' := 146) (z := (32 + x4)) hM_195 d_195_145 rfl rfl ?_
            obtain ⟨hz25, H⟩ := H
            refine r_ia (pc' := 147) (n := 168) hM_195 d_195_146 rfl rfl hz25 ?_
            refine r_ld (pc' := 148) hM_195 d_195_147 rfl rfl ?_
            refine r_stk (pc' := 149) (st' := [.inr (.inl (am_s b)), .inl ((mu m 54 ((am_s (44 + x4)).toNat) 0) 54 ((am_s (32 + x4)).toNat))]) hM_195 d_195_148 rfl rfl ?_
            refine r_ld (pc' := 151) hM_195 d_195_149 rfl rfl ?_
            refine r_cl (pc' := 154) (c := (194, 2)) (a := [.inr (.inl (am_s b)), .inl x4]) (q := [.inl ((mu m 54 ((am_s (44 + x4)).toNat) 0) 54 ((am_s (32 + x4)).toNat))]) hM_195 d_195_151 rfl (by decide +kernel) hM_194 rfl rfl rfl (Nat.le_of_ble_eq_true rfl) (Nat.le_of_ble_eq_true rfl) (Or.inl rfl) (n_194  (mu m 54 ((am_s (44 + x4)).toNat) 0) (am_s b) x4 hz12) (Nat.le_of_ble_eq_true rfl) ?_
            show rn fx 2 (0, 0) 195 154 [some (.inr (.inr (some 53))), some (.inl b), some (.inl x2), some (.inl x3), some (.inl x4), some (.inl 1), some (.inl ((m 54 ((am_s (44 + x4)).toNat)) + 1)), none] [.inl ((if (am_s b).toNat.testBit x4.toNat = true then 1 else 0)), .inl ((mu m 54 ((am_s (44 + x4)).toNat) 0) 54 ((am_s (32 + x4)).toNat))] (st0 (mu m 54 ((am_s (44 + x4)).toNat) 0)) o
            refine r_if (pc' := 161) (pc2 := 157) hM_195 d_195_154 (by decide) rfl (fun hc => absurd hc hz13) (fun _ => ?_)
            refine r_k (pc' := 158) (v := .inl 2) hM_195 d_195_157 rfl rfl ?_
            refine r_go (pc' := 162) hM_195 d_195_158 (by decide) ?_
            refine r_ld (pc' := 163) hM_195 d_195_162 rfl rfl ?_
            refine r_gR (pc' := 166) (v := 54) hM_195 d_195_163 rfl (by decide +kernel) ?_
            refine r_k (pc' := 168) (v := .inl 20) hM_195 d_195_166 rfl rfl ?_
            refine r_ld (pc' := 170) hM_195 d_195_168 rfl rfl ?_
            refine r_b (pc' := 171) (z := (20 + x4)) hM_195 d_195_170 rfl rfl ?_
            obtain ⟨hz26, H⟩ := H
            refine r_ia (pc' := 172) (n := 168) hM_195 d_195_171 rfl rfl hz26 ?_
            refine r_b (pc' := 173) (z := (2 * ((mu m 54 ((am_s (44 + x4)).toNat) 0) 54 ((am_s (20 + x4)).toNat)))) hM_195 d_195_172 rfl rfl ?_
            refine r_b (pc' := 174) (z := (((mu m 54 ((am_s (44 + x4)).toNat) 0) 54 ((am_s (32 + x4)).toNat)) + (2 * ((mu m 54 ((am_s (44 + x4)).toNat) 0) 54 ((am_s (20 + x4)).toNat))))) hM_195 d_195_173 rfl rfl ?_
            refine r_sto (pc' := 176) (ls' := [some (.inr (.inr (some 53))), some (.inl b), some (.inl x2), some (.inl x3), some (.inl x4), some (.inl 1), some (.inl ((m 54 ((am_s (44 + x4)).toNat)) + 1)), some (.inl (((mu m 54 ((am_s (44 + x4)).toNat) 0) 54 ((am_s (32 + x4)).toNat)) + (2 * ((mu m 54 ((am_s (44 + x4)).toNat) 0) 54 ((am_s (20 + x4)).toNat)))))]) hM_195 d_195_174 rfl rfl ?_
            refine r_ld (pc' := 177) hM_195 d_195_176 rfl rfl ?_
            refine r_gR (pc' := 180) (v := 54) hM_195 d_195_177 rfl (by decide +kernel) ?_
            refine r_k (pc' := 182) (v := .inl 32) hM_195 d_195_180 rfl rfl ?_
            refine r_ld (pc' := 184) hM_195 d_195_182 rfl rfl ?_
            refine r_b (pc' := 185) (z := (32 + x4)) hM_195 d_195_184 rfl rfl ?_
            refine r_ld (pc' := 187) hM_195 d_195_185 rfl rfl ?_
            refine r_k (pc' := 189) (v := .inl 100) hM_195 d_195_187 rfl rfl ?_
            refine r_ic (pc' := 197) (pc2 := 192) hM_195 d_195_189 (by decide) rfl (fun hz27 => ?_) (fun hz27 => ?_)
            · have H := H.1 hz27
              refine r_ld (pc' := 199) hM_195 d_195_197 rfl rfl ?_
              refine r_is (pc' := 200) (n := 168) hM_195 d_195_199 rfl rfl hz25 ?_
              refine r_ld (pc' := 201) hM_195 d_195_200 rfl rfl ?_
              refine r_gR (pc' := 204) (v := 54) hM_195 d_195_201 rfl (by decide +kernel) ?_
              refine r_k (pc' := 206) (v := .inl 44) hM_195 d_195_204 rfl rfl ?_
              refine r_ld (pc' := 208) hM_195 d_195_206 rfl rfl ?_
              refine r_b (pc' := 209) (z := (44 + x4)) hM_195 d_195_208 rfl rfl ?_
              refine r_ia (pc' := 210) (n := 168) hM_195 d_195_209 rfl rfl hz9 ?_
              refine r_ld (pc' := 211) hM_195 d_195_210 rfl rfl ?_
              refine r_gR (pc' := 214) (v := 54) hM_195 d_195_211 rfl (by decide +kernel) ?_
              refine r_k (pc' := 215) (v := .inl 5) hM_195 d_195_214 rfl rfl ?_
              refine r_iae (pc' := 216) (n := 168) (z := ((mu (mu m 54 ((am_s (44 + x4)).toNat) 0) 54 ((am_s (32 + x4)).toNat) (((mu m 54 ((am_s (44 + x4)).toNat) 0) 54 ((am_s (32 + x4)).toNat)) + (2 * ((mu m 54 ((am_s (44 + x4)).toNat) 0) 54 ((am_s (20 + x4)).toNat))))) 54 5)) hM_195 d_195_215 rfl rfl (by decide) (by rw [show (am_s 5).toNat = 5 by decide]) ?_
              refine r_ic (pc' := 222) (pc2 := 219) hM_195 d_195_216 (by decide) rfl (fun hz28 => ?_) (fun hz28 => ?_)
              · have H := H.1 hz28
                refine r_ld (pc' := 223) hM_195 d_195_222 rfl rfl ?_
                refine r_gR (pc' := 226) (v := 54) hM_195 d_195_223 rfl (by decide +kernel) ?_
                refine r_k (pc' := 228) (v := .inl 8) hM_195 d_195_226 rfl rfl ?_
                refine r_ld (pc' := 230) hM_195 d_195_228 rfl rfl ?_
                refine r_b (pc' := 231) (z := (8 + x4)) hM_195 d_195_230 rfl rfl ?_
                refine r_k (pc' := 232) (v := .inl 1) hM_195 d_195_231 rfl rfl ?_
                refine r_is (pc' := 233) (n := 168) hM_195 d_195_232 rfl rfl hz2 ?_
                refine r_sto (pc' := 236) (ls' := [some (.inr (.inr (some 53))), some (.inl b), some (.inl x2), some (.inl (x3 + 1)), some (.inl x4), some (.inl 1), some (.inl ((m 54 ((am_s (44 + x4)).toNat)) + 1)), some (.inl (((mu m 54 ((am_s (44 + x4)).toNat) 0) 54 ((am_s (32 + x4)).toNat)) + (2 * ((mu m 54 ((am_s (44 + x4)).toNat) 0) 54 ((am_s (20 + x4)).toNat)))))]) hM_195 d_195_233 rfl rfl ?_
                refine r_sto (pc' := 239) (ls' := [some (.inr (.inr (some 53))), some (.inl b), some (.inl x2), some (.inl (x3 + 1)), some (.inl (x4 + 1)), some (.inl 1), some (.inl ((m 54 ((am_s (44 + x4)).toNat)) + 1)), some (.inl (((mu m 54 ((am_s (44 + x4)).toNat) 0) 54 ((am_s (32 + x4)).toNat)) + (2 * ((mu m 54 ((am_s (44 + x4)).toNat) 0) 54 ((am_s (20 + x4)).toNat)))))]) hM_195 d_195_236 rfl rfl ?_
                refine r_go (pc' := 11) hM_195 d_195_239 (by decide) ?_
                exact rn_wk (by simp only [am_le, and_self]) H
              · have H := H.2 hz28
                refine r_go (pc' := 236) hM_195 d_195_219 (by decide) ?_
                refine r_sto (pc' := 239) (ls' := [some (.inr (.inr (some 53))), some (.inl b), some (.inl x2), some (.inl x3), some (.inl (x4 + 1)), some (.inl 1), some (.inl ((m 54 ((am_s (44 + x4)).toNat)) + 1)), some (.inl (((mu m 54 ((am_s (44 + x4)).toNat) 0) 54 ((am_s (32 + x4)).toNat)) + (2 * ((mu m 54 ((am_s (44 + x4)).toNat) 0) 54 ((am_s (20 + x4)).toNat)))))]) hM_195 d_195_236 rfl rfl ?_
                refine r_go (pc' := 11) hM_195 d_195_239 (by decide) ?_
                exact rn_wk (by simp only [am_le, and_self]) H
            · have H := H.2 hz27
              refine r_k (pc' := 194) (v := .inl 100) hM_195 d_195_192 rfl rfl ?_
              refine r_go (pc' := 199) hM_195 d_195_194 (by decide) ?_
              refine r_is (pc' := 200) (n := 168) hM_195 d_195_199 rfl rfl hz25 ?_
              refine r_ld (pc' := 201) hM_195 d_195_200 rfl rfl ?_
              refine r_gR (pc' := 204) (v := 54) hM_195 d_195_201 rfl (by decide +kernel) ?_
              refine r_k (pc' := 206) (v := .inl 44) hM_195 d_195_204 rfl rfl ?_
              refine r_ld (pc' := 208) hM_195 d_195_206 rfl rfl ?_
              refine r_b (pc' := 209) (z := (44 + x4)) hM_195 d_195_208 rfl rfl ?_
              refine r_ia (pc' := 210) (n := 168) hM_195 d_195_209 rfl rfl hz9 ?_
              refine r_ld (pc' := 211) hM_195 d_195_210 rfl rfl ?_
              refine r_gR (pc' := 214) (v := 54) hM_195 d_195_211 rfl (by decide +kernel) ?_
              refine r_k (pc' := 215) (v := .inl 5) hM_195 d_195_214 rfl rfl ?_
              refine r_iae (pc' := 216) (n := 168) (z := ((mu (mu m 54 ((am_s (44 + x4)).toNat) 0) 54 ((am_s (32 + x4)).toNat) 100) 54 5)) hM_195 d_195_215 rfl rfl (by decide) (by rw [show (am_s 5).toNat = 5 by decide]) ?_
              refine r_ic (pc' := 222) (pc2 := 219) hM_195 d_195_216 (by decide) rfl (fun hz29 => ?_) (fun hz29 => ?_)
              · have H := H.1 hz29
                refine r_ld (pc' := 223) hM_195 d_195_222 rfl rfl ?_
                refine r_gR (pc' := 226) (v := 54) hM_195 d_195_223 rfl (by decide +kernel) ?_
                refine r_k (pc' := 228) (v := .inl 8) hM_195 d_195_226 rfl rfl ?_
                refine r_ld (pc' := 230) hM_195 d_195_228 rfl rfl ?_
                refine r_b (pc' := 231) (z := (8 + x4)) hM_195 d_195_230 rfl rfl ?_
                refine r_k (pc' := 232) (v := .inl 1) hM_195 d_195_231 rfl rfl ?_
                refine r_is (pc' := 233) (n := 168) hM_195 d_195_232 rfl rfl hz2 ?_
                refine r_sto (pc' := 236) (ls' := [some (.inr (.inr (some 53))), some (.inl b), some (.inl x2), some (.inl (x3 + 1)), some (.inl x4), some (.inl 1), some (.inl ((m 54 ((am_s (44 + x4)).toNat)) + 1)), some (.inl (((mu m 54 ((am_s (44 + x4)).toNat) 0) 54 ((am_s (32 + x4)).toNat)) + (2 * ((mu m 54 ((am_s (44 + x4)).toNat) 0) 54 ((am_s (20 + x4)).toNat)))))]) hM_195 d_195_233 rfl rfl ?_
                refine r_sto (pc' := 239) (ls' := [some (.inr (.inr (some 53))), some (.inl b), some (.inl x2), some (.inl (x3 + 1)), some (.inl (x4 + 1)), some (.inl 1), some (.inl ((m 54 ((am_s (44 + x4)).toNat)) + 1)), some (.inl (((mu m 54 ((am_s (44 + x4)).toNat) 0) 54 ((am_s (32 + x4)).toNat)) + (2 * ((mu m 54 ((am_s (44 + x4)).toNat) 0) 54 ((am_s (20 + x4)).toNat)))))]) hM_195 d_195_236 rfl rfl ?_
                refine r_go (pc' := 11) hM_195 d_195_239 (by decide) ?_
                exact rn_wk (by simp only [am_le, and_self]) H
              · have H := H.2 hz29
                refine r_go (pc' := 236) hM_195 d_195_219 (by decide) ?_
                refine r_sto (pc' := 239) (ls' := [some (.inr (.inr (some 53))), some (.inl b), some (.inl x2), some (.inl x3), some (.inl (x4 + 1)), some (.inl 1), some (.inl ((m 54 ((am_s (44 + x4)).toNat)) + 1)), some (.inl (((mu m 54 ((am_s (44 + x4)).toNat) 0) 54 ((am_s (32 + x4)).toNat)) + (2 * ((mu m 54 ((am_s (44 + x4)).toNat) 0) 54 ((am_s (20 + x4)).toNat)))))]) hM_195 d_195_236 rfl rfl ?_
                refine r_go (pc' := 11) hM_195 d_195_239 (by decide) ?_
                exact rn_wk (by simp only [am_le, and_self]) H
        · have H := H.2 hz11
          refine r_k (pc' := 84) (v := .inl 2) hM_195 d_195_83 rfl rfl ?_
          refine r_go (pc' := 88) hM_195 d_195_84 (by decide) ?_
          refine r_b (pc' := 89) (z := ((m 54 ((am_s (44 + x4)).toNat)) + 2)) hM_195 d_195_88 rfl rfl ?_
          refine r_sto (pc' := 91) (ls' := [some (.inr (.inr (some 53))), some (.inl b), some (.inl x2), some (.inl x3), some (.inl x4), some (.inl 1), some (.inl ((m 54 ((am_s (44 + x4)).toNat)) + 2)), none]) hM_195 d_195_89 rfl rfl ?_
          refine r_ld (pc' := 92) hM_195 d_195_91 rfl rfl ?_
          refine r_gR (pc' := 95) (v := 54) hM_195 d_195_92 rfl (by decide +kernel) ?_
          refine r_k (pc' := 97) (v := .inl 44) hM_195 d_195_95 rfl rfl ?_
          refine r_ld (pc' := 99) hM_195 d_195_97 rfl rfl ?_
          refine r_b (pc' := 100) (z := (44 + x4)) hM_195 d_195_99 rfl rfl ?_
          refine r_ld (pc' := 101) hM_195 d_195_100 rfl rfl ?_
          refine r_stk (pc' := 102) (st' := [.inr (.inl (am_s b)), .inl (44 + x4), .inr (.inr (some 54))]) hM_195 d_195_101 rfl rfl ?_
          refine r_ld (pc' := 104) hM_195 d_195_102 rfl rfl ?_
          obtain ⟨hz30, H⟩ := H
          refine r_cl (pc' := 107) (c := (194, 2)) (a := [.inr (.inl (am_s b)), .inl x4]) (q := [.inl (44 + x4), .inr (.inr (some 54))]) hM_195 d_195_104 rfl (by decide +kernel) hM_194 rfl rfl rfl (Nat.le_of_ble_eq_true rfl) (Nat.le_of_ble_eq_true rfl) (Or.inl rfl) (n_194  m (am_s b) x4 hz30) (Nat.le_of_ble_eq_true rfl) ?_
          show rn fx 2 (0, 0) 195 107 [some (.inr (.inr (some 53))), some (.inl b), some (.inl x2), some (.inl x3), some (.inl x4), some (.inl 1), some (.inl ((m 54 ((am_s (44 + x4)).toNat)) + 2)), none] [.inl ((if (am_s b).toNat.testBit x4.toNat = true then 1 else 0)), .inl (44 + x4), .inr (.inr (some 54))] (st0 m) o
          refine r_if (pc' := 114) (pc2 := 110) hM_195 d_195_107 (by decide) rfl (fun hz31 => ?_) (fun hz31 => ?_)
          · have H := H.1 hz31
            refine r_ld (pc' := 116) hM_195 d_195_114 rfl rfl ?_
            refine r_k (pc' := 118) (v := .inl 99) hM_195 d_195_116 rfl rfl ?_
            refine r_ic (pc' := 126) (pc2 := 121) hM_195 d_195_118 (by decide) rfl (fun hz32 => ?_) (fun hz32 => ?_)
            · have H := H.1 hz32
              refine r_ld (pc' := 128) hM_195 d_195_126 rfl rfl ?_
              refine r_is (pc' := 129) (n := 168) hM_195 d_195_128 rfl rfl hz9 ?_
              refine r_ld (pc' := 131) hM_195 d_195_129 rfl rfl ?_
              refine r_if (pc' := 137) (pc2 := 134) hM_195 d_195_131 (by decide) rfl (fun _ => ?_) (fun hc => absurd (show ¬ am_s 1 = 0 by decide) hc)
              refine r_ld (pc' := 138) hM_195 d_195_137 rfl rfl ?_
              refine r_gR (pc' := 141) (v := 54) hM_195 d_195_138 rfl (by decide +kernel) ?_
              refine r_k (pc' := 143) (v := .inl 32) hM_195 d_195_141 rfl rfl ?_
              refine r_ld (pc' := 145) hM_195 d_195_143 rfl rfl ?_
              refine r_b (pc' := 146) (z := (32 + x4)) hM_195 d_195_145 rfl rfl ?_
              obtain ⟨hz33, H⟩ := H
              refine r_ia (pc' := 147) (n := 168) hM_195 d_195_146 rfl rfl hz33 ?_
              refine r_ld (pc' := 148) hM_195 d_195_147 rfl rfl ?_
              refine r_stk (pc' := 149) (st' := [.inr (.inl (am_s b)), .inl ((mu m 54 ((am_s (44 + x4)).toNat) ((m 54 ((am_s (44 + x4)).toNat)) + 2)) 54 ((am_s (32 + x4)).toNat))]) hM_195 d_195_148 rfl rfl ?_
              refine r_ld (pc' := 151) hM_195 d_195_149 rfl rfl ?_
              refine r_cl (pc' := 154) (c := (194, 2)) (a := [.inr (.inl (am_s b)), .inl x4]) (q := [.inl ((mu m 54 ((am_s (44 + x4)).toNat) ((m 54 ((am_s (44 + x4)).toNat)) + 2)) 54 ((am_s (32 + x4)).toNat))]) hM_195 d_195_151 rfl (by decide +kernel) hM_194 rfl rfl rfl (Nat.le_of_ble_eq_true rfl) (Nat.le_of_ble_eq_true rfl) (Or.inl rfl) (n_194  (mu m 54 ((am_s (44 + x4)).toNat) ((m 54 ((am_s (44 + x4)).toNat)) + 2)) (am_s b) x4 hz30) (Nat.le_of_ble_eq_true rfl) ?_
              show rn fx 2 (0, 0) 195 154 [some (.inr (.inr (some 53))), some (.inl b), some (.inl x2), some (.inl x3), some (.inl x4), some (.inl 1), some (.inl ((m 54 ((am_s (44 + x4)).toNat)) + 2)), none] [.inl ((if (am_s b).toNat.testBit x4.toNat = true then 1 else 0)), .inl ((mu m 54 ((am_s (44 + x4)).toNat) ((m 54 ((am_s (44 + x4)).toNat)) + 2)) 54 ((am_s (32 + x4)).toNat))] (st0 (mu m 54 ((am_s (44 + x4)).toNat) ((m 54 ((am_s (44 + x4)).toNat)) + 2))) o
              refine r_if (pc' := 161) (pc2 := 157) hM_195 d_195_154 (by decide) rfl (fun _ => ?_) (fun hc => absurd hz31 hc)
              refine r_k (pc' := 162) (v := .inl 1) hM_195 d_195_161 rfl rfl ?_
              refine r_ld (pc' := 163) hM_195 d_195_162 rfl rfl ?_
              refine r_gR (pc' := 166) (v := 54) hM_195 d_195_163 rfl (by decide +kernel) ?_
              refine r_k (pc' := 168) (v := .inl 20) hM_195 d_195_166 rfl rfl ?_
              refine r_ld (pc' := 170) hM_195 d_195_168 rfl rfl ?_
              refine r_b (pc' := 171) (z := (20 + x4)) hM_195 d_195_170 rfl rfl ?_
              obtain ⟨hz34, H⟩ := H
              refine r_ia (pc' := 172) (n := 168) hM_195 d_195_171 rfl rfl hz34 ?_
              refine r_b (pc' := 173) (z := (1 * ((mu m 54 ((am_s (44 + x4)).toNat) ((m 54 ((am_s (44 + x4)).toNat)) + 2)) 54 ((am_s (20 + x4)).toNat)))) hM_195 d_195_172 rfl rfl ?_
              refine r_b (pc' := 174) (z := (((mu m 54 ((am_s (44 + x4)).toNat) ((m 54 ((am_s (44 + x4)).toNat)) + 2)) 54 ((am_s (32 + x4)).toNat)) + (1 * ((mu m 54 ((am_s (44 + x4)).toNat) ((m 54 ((am_s (44 + x4)).toNat)) + 2)) 54 ((am_s (20 + x4)).toNat))))) hM_195 d_195_173 rfl rfl ?_
              refine r_sto (pc' := 176) (ls' := [some (.inr (.inr (some 53))), some (.inl b), some (.inl x2), some (.inl x3), some (.inl x4), some (.inl 1), some (.inl ((m 54 ((am_s (44 + x4)).toNat)) + 2)), some (.inl (((mu m 54 ((am_s (44 + x4)).toNat) ((m 54 ((am_s (44 + x4)).toNat)) + 2)) 54 ((am_s (32 + x4)).toNat)) + (1 * ((mu m 54 ((am_s (44 + x4)).toNat) ((m 54 ((am_s (44 + x4)).toNat)) + 2)) 54 ((am_s (20 + x4)).toNat)))))]) hM_195 d_195_174 rfl rfl ?_
              refine r_ld (pc' := 177) hM_195 d_195_176 rfl rfl ?_
              refine r_gR (pc' := 180) (v := 54) hM_195 d_195_177 rfl (by decide +kernel) ?_
              refine r_k (pc' := 182) (v := .inl 32) hM_195 d_195_180 rfl rfl ?_
              refine r_ld (pc' := 184) hM_195 d_195_182 rfl rfl ?_
              refine r_b (pc' := 185) (z := (32 + x4)) hM_195 d_195_184 rfl rfl ?_
              refine r_ld (pc' := 187) hM_195 d_195_185 rfl rfl ?_
              refine r_k (pc' := 189) (v := .inl 100) hM_195 d_195_187 rfl rfl ?_
              refine r_ic (pc' := 197) (pc2 := 192) hM_195 d_195_189 (by decide) rfl (fun hz35 => ?_) (fun hz35 => ?_)
              · have H := H.1 hz35
                refine r_ld (pc' := 199) hM_195 d_195_197 rfl rfl ?_
                refine r_is (pc' := 200) (n := 168) hM_195 d_195_199 rfl rfl hz33 ?_
                refine r_ld (pc' := 201) hM_195 d_195_200 rfl rfl ?_
                refine r_gR (pc' := 204) (v := 54) hM_195 d_195_201 rfl (by decide +kernel) ?_
                refine r_k (pc' := 206) (v := .inl 44) hM_195 d_195_204 rfl rfl ?_
                refine r_ld (pc' := 208) hM_195 d_195_206 rfl rfl ?_
                refine r_b (pc' := 209) (z := (44 + x4)) hM_195 d_195_208 rfl rfl ?_
                refine r_ia (pc' := 210) (n := 168) hM_195 d_195_209 rfl rfl hz9 ?_
                refine r_ld (pc' := 211) hM_195 d_195_210 rfl rfl ?_
                refine r_gR (pc' := 214) (v := 54) hM_195 d_195_211 rfl (by decide +kernel) ?_
                refine r_k (pc' := 215) (v := .inl 5) hM_195 d_195_214 rfl rfl ?_
                refine r_iae (pc' := 216) (n := 168) (z := ((mu (mu m 54 ((am_s (44 + x4)).toNat) ((m 54 ((am_s (44 + x4)).toNat)) + 2)) 54 ((am_s (32 + x4)).toNat) (((mu m 54 ((am_s (44 + x4)).toNat) ((m 54 ((am_s (44 + x4)).toNat)) + 2)) 54 ((am_s (32 + x4)).toNat)) + (1 * ((mu m 54 ((am_s (44 + x4)).toNat) ((m 54 ((am_s (44 + x4)).toNat)) + 2)) 54 ((am_s (20 + x4)).toNat))))) 54 5)) hM_195 d_195_215 rfl rfl (by decide) (by rw [show (am_s 5).toNat = 5 by decide]) ?_
                refine r_ic (pc' := 222) (pc2 := 219) hM_195 d_195_216 (by decide) rfl (fun hz36 => ?_) (fun hz36 => ?_)
                · have H := H.1 hz36
                  refine r_ld (pc' := 223) hM_195 d_195_222 rfl rfl ?_
                  refine r_gR (pc' := 226) (v := 54) hM_195 d_195_223 rfl (by decide +kernel) ?_
                  refine r_k (pc' := 228) (v := .inl 8) hM_195 d_195_226 rfl rfl ?_
                  refine r_ld (pc' := 230) hM_195 d_195_228 rfl rfl ?_
                  refine r_b (pc' := 231) (z := (8 + x4)) hM_195 d_195_230 rfl rfl ?_
                  refine r_k (pc' := 232) (v := .inl 1) hM_195 d_195_231 rfl rfl ?_
                  refine r_is (pc' := 233) (n := 168) hM_195 d_195_232 rfl rfl hz2 ?_
                  refine r_sto (pc' := 236) (ls' := [some (.inr (.inr (some 53))), some (.inl b), some (.inl x2), some (.inl (x3 + 1)), some (.inl x4), some (.inl 1), some (.inl ((m 54 ((am_s (44 + x4)).toNat)) + 2)), some (.inl (((mu m 54 ((am_s (44 + x4)).toNat) ((m 54 ((am_s (44 + x4)).toNat)) + 2)) 54 ((am_s (32 + x4)).toNat)) + (1 * ((mu m 54 ((am_s (44 + x4)).toNat) ((m 54 ((am_s (44 + x4)).toNat)) + 2)) 54 ((am_s (20 + x4)).toNat)))))]) hM_195 d_195_233 rfl rfl ?_
                  refine r_sto (pc' := 239) (ls' := [some (.inr (.inr (some 53))), some (.inl b), some (.inl x2), some (.inl (x3 + 1)), some (.inl (x4 + 1)), some (.inl 1), some (.inl ((m 54 ((am_s (44 + x4)).toNat)) + 2)), some (.inl (((mu m 54 ((am_s (44 + x4)).toNat) ((m 54 ((am_s (44 + x4)).toNat)) + 2)) 54 ((am_s (32 + x4)).toNat)) + (1 * ((mu m 54 ((am_s (44 + x4)).toNat) ((m 54 ((am_s (44 + x4)).toNat)) + 2)) 54 ((am_s (20 + x4)).toNat)))))]) hM_195 d_195_236 rfl rfl ?_
                  refine r_go (pc' := 11) hM_195 d_195_239 (by decide) ?_
                  exact rn_wk (by simp only [am_le, and_self]) H
                · have H := H.2 hz36
                  refine r_go (pc' := 236) hM_195 d_195_219 (by decide) ?_
                  refine r_sto (pc' := 239) (ls' := [some (.inr (.inr (some 53))), some (.inl b), some (.inl x2), some (.inl x3), some (.inl (x4 + 1)), some (.inl 1), some (.inl ((m 54 ((am_s (44 + x4)).toNat)) + 2)), some (.inl (((mu m 54 ((am_s (44 + x4)).toNat) ((m 54 ((am_s (44 + x4)).toNat)) + 2)) 54 ((am_s (32 + x4)).toNat)) + (1 * ((mu m 54 ((am_s (44 + x4)).toNat) ((m 54 ((am_s (44 + x4)).toNat)) + 2)) 54 ((am_s (20 + x4)).toNat)))))]) hM_195 d_195_236 rfl rfl ?_
                  refine r_go (pc' := 11) hM_195 d_195_239 (by decide) ?_
                  exact rn_wk (by simp only [am_le, and_self]) H
              · have H := H.2 hz35
                refine r_k (pc' := 194) (v := .inl 100) hM_195 d_195_192 rfl rfl ?_
                refine r_go (pc' := 199) hM_195 d_195_194 (by decide) ?_
                refine r_is (pc' := 200) (n := 168) hM_195 d_195_199 rfl rfl hz33 ?_
                refine r_ld (pc' := 201) hM_195 d_195_200 rfl rfl ?_
                refine r_gR (pc' := 204) (v := 54) hM_195 d_195_201 rfl (by decide +kernel) ?_
                refine r_k (pc' := 206) (v := .inl 44) hM_195 d_195_204 rfl rfl ?_
                refine r_ld (pc' := 208) hM_195 d_195_206 rfl rfl ?_
                refine r_b (pc' := 209) (z := (44 + x4)) hM_195 d_195_208 rfl rfl ?_
                refine r_ia (pc' := 210) (n := 168) hM_195 d_195_209 rfl rfl hz9 ?_
                refine r_ld (pc' := 211) hM_195 d_195_210 rfl rfl ?_
                refine r_gR (pc' := 214) (v := 54) hM_195 d_195_211 rfl (by decide +kernel) ?_
                refine r_k (pc' := 215) (v := .inl 5) hM_195 d_195_214 rfl rfl ?_
                refine r_iae (pc' := 216) (n := 168) (z := ((mu (mu m 54 ((am_s (44 + x4)).toNat) ((m 54 ((am_s (44 + x4)).toNat)) + 2)) 54 ((am_s (32 + x4)).toNat) 100) 54 5)) hM_195 d_195_215 rfl rfl (by decide) (by rw [show (am_s 5).toNat = 5 by decide]) ?_
                refine r_ic (pc' := 222) (pc2 := 219) hM_195 d_195_216 (by decide) rfl (fun hz37 => ?_) (fun hz37 => ?_)
                · have H := H.1 hz37
                  refine r_ld (pc' := 223) hM_195 d_195_222 rfl rfl ?_
                  refine r_gR (pc' := 226) (v := 54) hM_195 d_195_223 rfl (by decide +kernel) ?_
                  refine r_k (pc' := 228) (v := .inl 8) hM_195 d_195_226 rfl rfl ?_
                  refine r_ld (pc' := 230) hM_195 d_195_228 rfl rfl ?_
                  refine r_b (pc' := 231) (z := (8 + x4)) hM_195 d_195_230 rfl rfl ?_
                  refine r_k (pc' := 232) (v := .inl 1) hM_195 d_195_231 rfl rfl ?_
                  refine r_is (pc' := 233) (n := 168) hM_195 d_195_232 rfl rfl hz2 ?_
                  refine r_sto (pc' := 236) (ls' := [some (.inr (.inr (some 53))), some (.inl b), some (.inl x2), some (.inl (x3 + 1)), some (.inl x4), some (.inl 1), some (.inl ((m 54 ((am_s (44 + x4)).toNat)) + 2)), some (.inl (((mu m 54 ((am_s (44 + x4)).toNat) ((m 54 ((am_s (44 + x4)).toNat)) + 2)) 54 ((am_s (32 + x4)).toNat)) + (1 * ((mu m 54 ((am_s (44 + x4)).toNat) ((m 54 ((am_s (44 + x4)).toNat)) + 2)) 54 ((am_s (20 + x4)).toNat)))))]) hM_195 d_195_233 rfl rfl ?_
                  refine r_sto (pc' := 239) (ls' := [some (.inr (.inr (some 53))), some (.inl b), some (.inl x2), some (.inl (x3 + 1)), some (.inl (x4 + 1)), some (.inl 1), some (.inl ((m 54 ((am_s (44 + x4)).toNat)) + 2)), some (.inl (((mu m 54 ((am_s (44 + x4)).toNat) ((m 54 ((am_s (44 + x4)).toNat)) + 2)) 54 ((am_s (32 + x4)).toNat)) + (1 * ((mu m 54 ((am_s (44 + x4)).toNat) ((m 54 ((am_s (44 + x4)).toNat)) + 2)) 54 ((am_s (20 + x4)).toNat)))))]) hM_195 d_195_236 rfl rfl ?_
                  refine r_go (pc' := 11) hM_195 d_195_239 (by decide) ?_
                  exact rn_wk (by simp only [am_le, and_self]) H
                · have H := H.2 hz37
                  refine r_go (pc' := 236) hM_195 d_195_219 (by decide) ?_
                  refine r_sto (pc' := 239) (ls' := [some (.inr (.inr (some 53))), some (.inl b), some (.inl x2), some (.inl x3), some (.inl (x4 + 1)), some (.inl 1), some (.inl ((m 54 ((am_s (44 + x4)).toNat)) + 2)), some (.inl (((mu m 54 ((am_s (44 + x4)).toNat) ((m 54 ((am_s (44 + x4)).toNat)) + 2)) 54 ((am_s (32 + x4)).toNat)) + (1 * ((mu m 54 ((am_s (44 + x4)).toNat) ((m 54 ((am_s (44 + x4)).toNat)) + 2)) 54 ((am_s (20 + x4)).toNat)))))]) hM_195 d_195_236 rfl rfl ?_
                  refine r_go (pc' := 11) hM_195 d_195_239 (by decide) ?_
                  exact rn_wk (by simp only [am_le, and_self]) H
            · have H := H.2 hz32
              refine r_k (pc' := 123) (v := .inl 99) hM_195 d_195_121 rfl rfl ?_
              refine r_go (pc' := 128) hM_195 d_195_123 (by decide) ?_
              refine r_is (pc' := 129) (n := 168) hM_195 d_195_128 rfl rfl hz9 ?_
              refine r_ld (pc' := 131) hM_195 d_195_129 rfl rfl ?_
              refine r_if (pc' := 137) (pc2 := 134) hM_195 d_195_131 (by decide) rfl (fun _ => ?_) (fun hc => absurd (show ¬ am_s 1 = 0 by decide) hc)
              refine r_ld (pc' := 138) hM_195 d_195_137 rfl rfl ?_
              refine r_gR (pc' := 141) (v := 54) hM_195 d_195_138 rfl (by decide +kernel) ?_
              refine r_k (pc' := 143) (v := .inl 32) hM_195 d_195_141 rfl rfl ?_
              refine r_ld (pc' := 145) hM_195 d_195_143 rfl rfl ?_
              refine r_b (pc' := 146) (z := (32 + x4)) hM_195 d_195_145 rfl rfl ?_
              obtain ⟨hz38, H⟩ := H
              refine r_ia (pc' := 147) (n := 168) hM_195 d_195_146 rfl rfl hz38 ?_
              refine r_ld (pc' := 148) hM_195 d_195_147 rfl rfl ?_
              refine r_stk (pc' := 149) (st' := [.inr (.inl (am_s b)), .inl ((mu m 54 ((am_s (44 + x4)).toNat) 99) 54 ((am_s (32 + x4)).toNat))]) hM_195 d_195_148 rfl rfl ?_
              refine r_ld (pc' := 151) hM_195 d_195_149 rfl rfl ?_
              refine r_cl (pc' := 154) (c := (194, 2)) (a := [.inr (.inl (am_s b)), .inl x4]) (q := [.inl ((mu m 54 ((am_s (44 + x4)).toNat) 99) 54 ((am_s (32 + x4)).toNat))]) hM_195 d_195_151 rfl (by decide +kernel) hM_194 rfl rfl rfl (Nat.le_of_ble_eq_true rfl) (Nat.le_of_ble_eq_true rfl) (Or.inl rfl) (n_194  (mu m 54 ((am_s (44 + x4)).toNat) 99) (am_s b) x4 hz30) (Nat.le_of_ble_eq_true rfl) ?_
              show rn fx 2 (0, 0) 195 154 [some (.inr (.inr (some 53))), some (.inl b), some (.inl x2), some (.inl x3), some (.inl x4), some (.inl 1), some (.inl ((m 54 ((am_s (44 + x4)).toNat)) + 2)), none] [.inl ((if (am_s b).toNat.testBit x4.toNat = true then 1 else 0)), .inl ((mu m 54 ((am_s (44 + x4)).toNat) 99) 54 ((am_s (32 + x4)).toNat))] (st0 (mu m 54 ((am_s (44 + x4)).toNat) 99)) o
              refine r_if (pc' := 161) (pc2 := 157) hM_195 d_195_154 (by decide) rfl (fun _ => ?_) (fun hc => absurd hz31 hc)
              refine r_k (pc' := 162) (v := .inl 1) hM_195 d_195_161 rfl rfl ?_
              refine r_ld (pc' := 163) hM_195 d_195_162 rfl rfl ?_
              refine r_gR (pc' := 166) (v := 54) hM_195 d_195_163 rfl (by decide +kernel) ?_
              refine r_k (pc' := 168) (v := .inl 20) hM_195 d_195_166 rfl rfl ?_
              refine r_ld (pc' := 170) hM_195 d_195_168 rfl rfl ?_
              refine r_b (pc' := 171) (z := (20 + x4)) hM_195 d_195_170 rfl rfl ?_
              obtain ⟨hz39, H⟩ := H
              refine r_ia (pc' := 172) (n := 168) hM_195 d_195_171 rfl rfl hz39 ?_
              refine r_b (pc' := 173) (z := (1 * ((mu m 54 ((am_s (44 + x4)).toNat) 99) 54 ((am_s (20 + x4)).toNat)))) hM_195 d_195_172 rfl rfl ?_
              refine r_b (pc' := 174) (z := (((mu m 54 ((am_s (44 + x4)).toNat) 99) 54 ((am_s (32 + x4)).toNat)) + (1 * ((mu m 54 ((am_s (44 + x4)).toNat) 99) 54 ((am_s (20 + x4)).toNat))))) hM_195 d_195_173 rfl rfl ?_
              refine r_sto (pc' := 176) (ls' := [some (.inr (.inr (some 53))), some (.inl b), some (.inl x2), some (.inl x3), some (.inl x4), some (.inl 1), some (.inl ((m 54 ((am_s (44 + x4)).toNat)) + 2)), some (.inl (((mu m 54 ((am_s (44 + x4)).toNat) 99) 54 ((am_s (32 + x4)).toNat)) + (1 * ((mu m 54 ((am_s (44 + x4)).toNat) 99) 54 ((am_s (20 + x4)).toNat)))))]) hM_195 d_195_174 rfl rfl ?_
              refine r_ld (pc' := 177) hM_195 d_195_176 rfl rfl ?_
              refine r_gR (pc' := 180) (v := 54) hM_195 d_195_177 rfl (by decide +kernel) ?_
              refine r_k (pc' := 182) (v := .inl 32) hM_195 d_195_180 rfl rfl ?_
              refine r_ld (pc' := 184) hM_195 d_195_182 rfl rfl ?_
              refine r_b (pc' := 185) (z := (32 + x4)) hM_195 d_195_184 rfl rfl ?_
              refine r_ld (pc' := 187) hM_195 d_195_185 rfl rfl ?_
              refine r_k (pc' := 189) (v := .inl 100) hM_195 d_195_187 rfl rfl ?_
              refine r_ic (pc' := 197) (pc2 := 192) hM_195 d_195_189 (by decide) rfl (fun hz40 => ?_) (fun hz40 => ?_)
              · have H := H.1 hz40
                refine r_ld (pc' := 199) hM_195 d_195_197 rfl rfl ?_
                refine r_is (pc' := 200) (n := 168) hM_195 d_195_199 rfl rfl hz38 ?_
                refine r_ld (pc' := 201) hM_195 d_195_200 rfl rfl ?_
                refine r_gR (pc' := 204) (v := 54) hM_195 d_195_201 rfl (by decide +kernel) ?_
                refine r_k (pc' := 206) (v := .inl 44) hM_195 d_195_204 rfl rfl ?_
                refine r_ld (pc' := 208) hM_195 d_195_206 rfl rfl ?_
                refine r_b (pc' := 209) (z := (44 + x4)) hM_195 d_195_208 rfl rfl ?_
                refine r_ia (pc' := 210) (n := 168) hM_195 d_195_209 rfl rfl hz9 ?_
                refine r_ld (pc' := 211) hM_195 d_195_210 rfl rfl ?_
                refine r_gR (pc' := 214) (v := 54) hM_195 d_195_211 rfl (by decide +kernel) ?_
                refine r_k (pc' := 215) (v := .inl 5) hM_195 d_195_214 rfl rfl ?_
                refine r_iae (pc' := 216) (n := 168) (z := ((mu (mu m 54 ((am_s (44 + x4)).toNat) 99) 54 ((am_s (32 + x4)).toNat) (((mu m 54 ((am_s (44 + x4)).toNat) 99) 54 ((am_s (32 + x4)).toNat)) + (1 * ((mu m 54 ((am_s (44 + x4)).toNat) 99) 54 ((am_s (20 + x4)).toNat))))) 54 5)) hM_195 d_195_215 rfl rfl (by decide) (by rw [show (am_s 5).toNat = 5 by decide]) ?_
                refine r_ic (pc' := 222) (pc2 := 219) hM_195 d_195_216 (by decide) rfl (fun hz41 => ?_) (fun hz41 => ?_)
                · have H := H.1 hz41
                  refine r_ld (pc' := 223) hM_195 d_195_222 rfl rfl ?_
                  refine r_gR (pc' := 226) (v := 54) hM_195 d_195_223 rfl (by decide +kernel) ?_
                  refine r_k (pc' := 228) (v := .inl 8) hM_195 d_195_226 rfl rfl ?_
                  refine r_ld (pc' := 230) hM_195 d_195_228 rfl rfl ?_
                  refine r_b (pc' := 231) (z := (8 + x4)) hM_195 d_195_230 rfl rfl ?_
                  refine r_k (pc' := 232) (v := .inl 1) hM_195 d_195_231 rfl rfl ?_
                  refine r_is (pc' := 233) (n := 168) hM_195 d_195_232 rfl rfl hz2 ?_
                  refine r_sto (pc' := 236) (ls' := [some (.inr (.inr (some 53))), some (.inl b), some (.inl x2), some (.inl (x3 + 1)), some (.inl x4), some (.inl 1), some (.inl ((m 54 ((am_s (44 + x4)).toNat)) + 2)), some (.inl (((mu m 54 ((am_s (44 + x4)).toNat) 99) 54 ((am_s (32 + x4)).toNat)) + (1 * ((mu m 54 ((am_s (44 + x4)).toNat) 99) 54 ((am_s (20 + x4)).toNat)))))]) hM_195 d_195_233 rfl rfl ?_
                  refine r_sto (pc' := 239) (ls' := [some (.inr (.inr (some 53))), some (.inl b), some (.inl x2), some (.inl (x3 + 1)), some (.inl (x4 + 1)), some (.inl 1), some (.inl ((m 54 ((am_s (44 + x4)).toNat)) + 2)), some (.inl (((mu m 54 ((am_s (44 + x4)).toNat) 99) 54 ((am_s (32 + x4)).toNat)) + (1 * ((mu m 54 ((am_s (44 + x4)).toNat) 99) 54 ((am_s (20 + x4)).toNat)))))]) hM_195 d_195_236 rfl rfl ?_
                  refine r_go (pc' := 11) hM_195 d_195_239 (by decide) ?_
                  exact rn_wk (by simp only [am_le, and_self]) H
                · have H := H.2 hz41
                  refine r_go (pc' := 236) hM_195 d_195_219 (by decide) ?_
                  refine r_sto (pc' := 239) (ls' := [some (.inr (.inr (some 53))), some (.inl b), some (.inl x2), some (.inl x3), some (.inl (x4 + 1)), some (.inl 1), some (.inl ((m 54 ((am_s (44 + x4)).toNat)) + 2)), some (.inl (((mu m 54 ((am_s (44 + x4)).toNat) 99) 54 ((am_s (32 + x4)).toNat)) + (1 * ((mu m 54 ((am_s (44 + x4)).toNat) 99) 54 ((am_s (20 + x4)).toNat)))))]) hM_195 d_195_236 rfl rfl ?_
                  refine r_go (pc' := 11) hM_195 d_195_239 (by decide) ?_
                  exact rn_wk (by simp only [am_le, and_self]) H
              · have H := H.2 hz40
                refine r_k (pc' := 194) (v := .inl 100) hM_195 d_195_192 rfl rfl ?_
                refine r_go (pc' := 199) hM_195 d_195_194 (by decide) ?_
                refine r_is (pc' := 200) (n := 168) hM_195 d_195_199 rfl rfl hz38 ?_
                refine r_ld (pc' := 201) hM_195 d_195_200 rfl rfl ?_
                refine r_gR (pc' := 204) (v := 54) hM_195 d_195_201 rfl (by decide +kernel) ?_
                refine r_k (pc' := 206) (v := .inl 44) hM_195 d_195_204 rfl rfl ?_
                refine r_ld (pc' := 208) hM_195 d_195_206 rfl rfl ?_
                refine r_b (pc' := 209) (z := (44 + x4)) hM_195 d_195_208 rfl rfl ?_
                refine r_ia (pc' := 210) (n := 168) hM_195 d_195_209 rfl rfl hz9 ?_
                refine r_ld (pc' := 211) hM_195 d_195_210 rfl rfl ?_
                refine r_gR (pc' := 214) (v := 54) hM_195 d_195_211 rfl (by decide +kernel) ?_
                refine r_k (pc' := 215) (v := .inl 5) hM_195 d_195_214 rfl rfl ?_
                refine r_iae (pc' := 216) (n := 168) (z := ((mu (mu m 54 ((am_s (44 + x4)).toNat) 99) 54 ((am_s (32 + x4)).toNat) 100) 54 5)) hM_195 d_195_215 rfl rfl (by decide) (by rw [show (am_s 5).toNat = 5 by decide]) ?_
                refine r_ic (pc' := 222) (pc2 := 219) hM_195 d_195_216 (by decide) rfl (fun hz42 => ?_) (fun hz42 => ?_)
                · have H := H.1 hz42
                  refine r_ld (pc' := 223) hM_195 d_195_222 rfl rfl ?_
                  refine r_gR (pc' := 226) (v := 54) hM_195 d_195_223 rfl (by decide +kernel) ?_
                  refine r_k (pc' := 228) (v := .inl 8) hM_195 d_195_226 rfl rfl ?_
                  refine r_ld (pc' := 230) hM_195 d_195_228 rfl rfl ?_
                  refine r_b (pc' := 231) (z := (8 + x4)) hM_195 d_195_230 rfl rfl ?_
                  refine r_k (pc' := 232) (v := .inl 1) hM_195 d_195_231 rfl rfl ?_
                  refine r_is (pc' := 233) (n := 168) hM_195 d_195_232 rfl rfl hz2 ?_
                  refine r_sto (pc' := 236) (ls' := [some (.inr (.inr (some 53))), some (.inl b), some (.inl x2), some (.inl (x3 + 1)), some (.inl x4), some (.inl 1), some (.inl ((m 54 ((am_s (44 + x4)).toNat)) + 2)), some (.inl (((mu m 54 ((am_s (44 + x4)).toNat) 99) 54 ((am_s (32 + x4)).toNat)) + (1 * ((mu m 54 ((am_s (44 + x4)).toNat) 99) 54 ((am_s (20 + x4)).toNat)))))]) hM_195 d_195_233 rfl rfl ?_
                  refine r_sto (pc' := 239) (ls' := [some (.inr (.inr (some 53))), some (.inl b), some (.inl x2), some (.inl (x3 + 1)), some (.inl (x4 + 1)), some (.inl 1), some (.inl ((m 54 ((am_s (44 + x4)).toNat)) + 2)), some (.inl (((mu m 54 ((am_s (44 + x4)).toNat) 99) 54 ((am_s (32 + x4)).toNat)) + (1 * ((mu m 54 ((am_s (44 + x4)).toNat) 99) 54 ((am_s (20 + x4)).toNat)))))]) hM_195 d_195_236 rfl rfl ?_
                  refine r_go (pc' := 11) hM_195 d_195_239 (by decide) ?_
                  exact rn_wk (by simp only [am_le, and_self]) H
                · have H := H.2 hz42
                  refine r_go (pc' := 236) hM_195 d_195_219 (by decide) ?_
                  refine r_sto (pc' := 239) (ls' := [some (.inr (.inr (some 53))), some (.inl b), some (.inl x2), some (.inl x3), some (.inl (x4 + 1)), some (.inl 1), some (.inl ((m 54 ((am_s (44 + x4)).toNat)) + 2)), some (.inl (((mu m 54 ((am_s (44 + x4)).toNat) 99) 54 ((am_s (32 + x4)).toNat)) + (1 * ((mu m 54 ((am_s (44 + x4)).toNat) 99) 54 ((am_s (20 + x4)).toNat)))))]) hM_195 d_195_236 rfl rfl ?_
                  refine r_go (pc' := 11) hM_195 d_195_239 (by decide) ?_
                  exact rn_wk (by simp only [am_le, and_self]) H
          · have H := H.2 hz31
            refine r_k (pc' := 111) (v := .inl 0) hM_195 d_195_110 rfl rfl ?_
            refine r_go (pc' := 128) hM_195 d_195_111 (by decide) ?_
            refine r_is (pc' := 129) (n := 168) hM_195 d_195_128 rfl rfl hz9 ?_
            refine r_ld (pc' := 131) hM_195 d_195_129 rfl rfl ?_
            refine r_if (pc' := 137) (pc2 := 134) hM_195 d_195_131 (by decide) rfl (fun _ => ?_) (fun hc => absurd (show ¬ am_s 1 = 0 by decide) hc)
            refine r_ld (pc' := 138) hM_195 d_195_137 rfl rfl ?_
            refine r_gR (pc' := 141) (v := 54) hM_195 d_195_138 rfl (by decide +kernel) ?_
            refine r_k (pc' := 143) (v := .inl 32) hM_195 d_195_141 rfl rfl ?_
            refine r_ld (pc' := 145) hM_195 d_195_143 rfl rfl ?_
            refine r_b (pc' := 146) (z := (32 + x4)) hM_195 d_195_145 rfl rfl ?_
            obtain ⟨hz43, H⟩ := H
            refine r_ia (pc' := 147) (n := 168) hM_195 d_195_146 rfl rfl hz43 ?_
            refine r_ld (pc' := 148) hM_195 d_195_147 rfl rfl ?_
            refine r_stk (pc' := 149) (st' := [.inr (.inl (am_s b)), .inl ((mu m 54 ((am_s (44 + x4)).toNat) 0) 54 ((am_s (32 + x4)).toNat))]) hM_195 d_195_148 rfl rfl ?_
            refine r_ld (pc' := 151) hM_195 d_195_149 rfl rfl ?_
            refine r_cl (pc' := 154) (c := (194, 2)) (a := [.inr (.inl (am_s b)), .inl x4]) (q := [.inl ((mu m 54 ((am_s (44 + x4)).toNat) 0) 54 ((am_s (32 + x4)).toNat))]) hM_195 d_195_151 rfl (by decide +kernel) hM_194 rfl rfl rfl (Nat.le_of_ble_eq_true rfl) (Nat.le_of_ble_eq_true rfl) (Or.inl rfl) (n_194  (mu m 54 ((am_s (44 + x4)).toNat) 0) (am_s b) x4 hz30) (Nat.le_of_ble_eq_true rfl) ?_
            show rn fx 2 (0, 0) 195 154 [some (.inr (.inr (some 53))), some (.inl b), some (.inl x2), some (.inl x3), some (.inl x4), some (.inl 1), some (.inl ((m 54 ((am_s (44 + x4)).toNat)) + 2)), none] [.inl ((if (am_s b).toNat.testBit x4.toNat = true then 1 else 0)), .inl ((mu m 54 ((am_s (44 + x4)).toNat) 0) 54 ((am_s (32 + x4)).toNat))] (st0 (mu m 54 ((am_s (44 + x4)).toNat) 0)) o
            refine r_if (pc' := 161) (pc2 := 157) hM_195 d_195_154 (by decide) rfl (fun hc => absurd hc hz31) (fun _ => ?_)
            refine r_k (pc' := 158) (v := .inl 2) hM_195 d_195_157 rfl rfl ?_
            refine r_go (pc' := 162) hM_195 d_195_158 (by decide) ?_
            refine r_ld (pc' := 163) hM_195 d_195_162 rfl rfl ?_
            refine r_gR (pc' := 166) (v := 54) hM_195 d_195_163 rfl (by decide +kernel) ?_
            refine r_k (pc' := 168) (v := .inl 20) hM_195 d_195_166 rfl rfl ?_
            refine r_ld (pc' := 170) hM_195 d_195_168 rfl rfl ?_
            refine r_b (pc' := 171) (z := (20 + x4)) hM_195 d_195_170 rfl rfl ?_
            obtain ⟨hz44, H⟩ := H
            refine r_ia (pc' := 172) (n := 168) hM_195 d_195_171 rfl rfl hz44 ?_
            refine r_b (pc' := 173) (z := (2 * ((mu m 54 ((am_s (44 + x4)).toNat) 0) 54 ((am_s (20 + x4)).toNat)))) hM_195 d_195_172 rfl rfl ?_
            refine r_b (pc' := 174) (z := (((mu m 54 ((am_s (44 + x4)).toNat) 0) 54 ((am_s (32 + x4)).toNat)) + (2 * ((mu m 54 ((am_s (44 + x4)).toNat) 0) 54 ((am_s (20 + x4)).toNat))))) hM_195 d_195_173 rfl rfl ?_
            refine r_sto (pc' := 176) (ls' := [some (.inr (.inr (some 53))), some (.inl b), some (.inl x2), some (.inl x3), some (.inl x4), some (.inl 1), some (.inl ((m 54 ((am_s (44 + x4)).toNat)) + 2)), some (.inl (((mu m 54 ((am_s (44 + x4)).toNat) 0) 54 ((am_s (32 + x4)).toNat)) + (2 * ((mu m 54 ((am_s (44 + x4)).toNat) 0) 54 ((am_s (20 + x4)).toNat)))))]) hM_195 d_195_174 rfl rfl ?_
            refine r_ld (pc' := 177) hM_195 d_195_176 rfl rfl ?_
            refine r_gR (pc' := 180) (v := 54) hM_195 d_195_177 rfl (by decide +kernel) ?_
            refine r_k (pc' := 182) (v := .inl 32) hM_195 d_195_180 rfl rfl ?_
            refine r_ld (pc' := 184) hM_195 d_195_182 rfl rfl ?_
            refine r_b (pc' := 185) (z := (32 + x4)) hM_195 d_195_184 rfl rfl ?_
            refine r_ld (pc' := 187) hM_195 d_195_185 rfl rfl ?_
            refine r_k (pc' := 189) (v := .inl 100) hM_195 d_195_187 rfl rfl ?_
            refine r_ic (pc' := 197) (pc2 := 192) hM_195 d_195_189 (by decide) rfl (fun hz45 => ?_) (fun hz45 => ?_)
            · have H := H.1 hz45
              refine r_ld (pc' := 199) hM_195 d_195_197 rfl rfl ?_
              refine r_is (pc' := 200) (n := 168) hM_195 d_195_199 rfl rfl hz43 ?_
              refine r_ld (pc' := 201) hM_195 d_195_200 rfl rfl ?_
              refine r_gR (pc' := 204) (v := 54) hM_195 d_195_201 rfl (by decide +kernel) ?_
              refine r_k (pc' := 206) (v := .inl 44) hM_195 d_195_204 rfl rfl ?_
              refine r_ld (pc' := 208) hM_195 d_195_206 rfl rfl ?_
              refine r_b (pc' := 209) (z := (44 + x4)) hM_195 d_195_208 rfl rfl ?_
              refine r_ia (pc' := 210) (n := 168) hM_195 d_195_209 rfl rfl hz9 ?_
              refine r_ld (pc' := 211) hM_195 d_195_210 rfl rfl ?_
              refine r_gR (pc' := 214) (v := 54) hM_195 d_195_211 rfl (by decide +kernel) ?_
              refine r_k (pc' := 215) (v := .inl 5) hM_195 d_195_214 rfl rfl ?_
              refine r_iae (pc' := 216) (n := 168) (z := ((mu (mu m 54 ((am_s (44 + x4)).toNat) 0) 54 ((am_s (32 + x4)).toNat) (((mu m 54 ((am_s (44 + x4)).toNat) 0) 54 ((am_s (32 + x4)).toNat)) + (2 * ((mu m 54 ((am_s (44 + x4)).toNat) 0) 54 ((am_s (20 + x4)).toNat))))) 54 5)) hM_195 d_195_215 rfl rfl (by decide) (by rw [show (am_s 5).toNat = 5 by decide]) ?_
              refine r_ic (pc' := 222) (pc2 := 219) hM_195 d_195_216 (by decide) rfl (fun hz46 => ?_) (fun hz46 => ?_)
              · have H := H.1 hz46
                refine r_ld (pc' := 223) hM_195 d_195_222 rfl rfl ?_
                refine r_gR (pc' := 226) (v := 54) hM_195 d_195_223 rfl (by decide +kernel) ?_
                refine r_k (pc' := 228) (v := .inl 8) hM_195 d_195_226 rfl rfl ?_
                refine r_ld (pc' := 230) hM_195 d_195_228 rfl rfl ?_
                refine r_b (pc' := 231) (z := (8 + x4)) hM_195 d_195_230 rfl rfl ?_
                refine r_k (pc' := 232) (v := .inl 1) hM_195 d_195_231 rfl rfl ?_
                refine r_is (pc' := 233) (n := 168) hM_195 d_195_232 rfl rfl hz2 ?_
                refine r_sto (pc' := 236) (ls' := [some (.inr (.inr (some 53))), some (.inl b), some (.inl x2), some (.inl (x3 + 1)), some (.inl x4), some (.inl 1), some (.inl ((m 54 ((am_s (44 + x4)).toNat)) + 2)), some (.inl (((mu m 54 ((am_s (44 + x4)).toNat) 0) 54 ((am_s (32 + x4)).toNat)) + (2 * ((mu m 54 ((am_s (44 + x4)).toNat) 0) 54 ((am_s (20 + x4)).toNat)))))]) hM_195 d_195_233 rfl rfl ?_
                refine r_sto (pc' := 239) (ls' := [some (.inr (.inr (some 53))), some (.inl b), some (.inl x2), some (.inl (x3 + 1)), some (.inl (x4 + 1)), some (.inl 1), some (.inl ((m 54 ((am_s (44 + x4)).toNat)) + 2)), some (.inl (((mu m 54 ((am_s (44 + x4)).toNat) 0) 54 ((am_s (32 + x4)).toNat)) + (2 * ((mu m 54 ((am_s (44 + x4)).toNat) 0) 54 ((am_s (20 + x4)).toNat)))))]) hM_195 d_195_236 rfl rfl ?_
                refine r_go (pc' := 11) hM_195 d_195_239 (by decide) ?_
                exact rn_wk (by simp only [am_le, and_self]) H
              · have H := H.2 hz46
                refine r_go (pc' := 236) hM_195 d_195_219 (by decide) ?_
                refine r_sto (pc' := 239) (ls' := [some (.inr (.inr (some 53))), some (.inl b), some (.inl x2), some (.inl x3), some (.inl (x4 + 1)), some (.inl 1), some (.inl ((m 54 ((am_s (44 + x4)).toNat)) + 2)), some (.inl (((mu m 54 ((am_s (44 + x4)).toNat) 0) 54 ((am_s (32 + x4)).toNat)) + (2 * ((mu m 54 ((am_s (44 + x4)).toNat) 0) 54 ((am_s (20 + x4)).toNat)))))]) hM_195 d_195_236 rfl rfl ?_
                refine r_go (pc' := 11) hM_195 d_195_239 (by decide) ?_
                exact rn_wk (by simp only [am_le, and_self]) H
            · have H := H.2 hz45
              refine r_k (pc' := 194) (v := .inl 100) hM_195 d_195_192 rfl rfl ?_
              refine r_go (pc' := 199) hM_195 d_195_194 (by decide) ?_
              refine r_is (pc' := 200) (n := 168) hM_195 d_195_199 rfl rfl hz43 ?_
              refine r_ld (pc' := 201) hM_195 d_195_200 rfl rfl ?_
              refine r_gR (pc' := 204) (v := 54) hM_195 d_195_201 rfl (by decide +kernel) ?_
              refine r_k (pc' := 206) (v := .inl 44) hM_195 d_195_204 rfl rfl ?_
              refine r_ld (pc' := 208) hM_195 d_195_206 rfl rfl ?_
              refine r_b (pc' := 209) (z := (44 + x4)) hM_195 d_195_208 rfl rfl ?_
              refine r_ia (pc' := 210) (n := 168) hM_195 d_195_209 rfl rfl hz9 ?_
              refine r_ld (pc' := 211) hM_195 d_195_210 rfl rfl ?_
              refine r_gR (pc' := 214) (v := 54) hM_195 d_195_211 rfl (by decide +kernel) ?_
              refine r_k (pc' := 215) (v := .inl 5) hM_195 d_195_214 rfl rfl ?_
              refine r_iae (pc' := 216) (n := 168) (z := ((mu (mu m 54 ((am_s (44 + x4)).toNat) 0) 54 ((am_s (32 + x4)).toNat) 100) 54 5)) hM_195 d_195_215 rfl rfl (by decide) (by rw [show (am_s 5).toNat = 5 by decide]) ?_
              refine r_ic (pc' := 222) (pc2 := 219) hM_195 d_195_216 (by decide) rfl (fun hz47 => ?_) (fun hz47 => ?_)
              · have H := H.1 hz47
                refine r_ld (pc' := 223) hM_195 d_195_222 rfl rfl ?_
                refine r_gR (pc' := 226) (v := 54) hM_195 d_195_223 rfl (by decide +kernel) ?_
                refine r_k (pc' := 228) (v := .inl 8) hM_195 d_195_226 rfl rfl ?_
                refine r_ld (pc' := 230) hM_195 d_195_228 rfl rfl ?_
                refine r_b (pc' := 231) (z := (8 + x4)) hM_195 d_195_230 rfl rfl ?_
                refine r_k (pc' := 232) (v := .inl 1) hM_195 d_195_231 rfl rfl ?_
                refine r_is (pc' := 233) (n := 168) hM_195 d_195_232 rfl rfl hz2 ?_
                refine r_sto (pc' := 236) (ls' := [some (.inr (.inr (some 53))), some (.inl b), some (.inl x2), some (.inl (x3 + 1)), some (.inl x4), some (.inl 1), some (.inl ((m 54 ((am_s (44 + x4)).toNat)) + 2)), some (.inl (((mu m 54 ((am_s (44 + x4)).toNat) 0) 54 ((am_s (32 + x4)).toNat)) + (2 * ((mu m 54 ((am_s (44 + x4)).toNat) 0) 54 ((am_s (20 + x4)).toNat)))))]) hM_195 d_195_233 rfl rfl ?_
                refine r_sto (pc' := 239) (ls' := [some (.inr (.inr (some 53))), some (.inl b), some (.inl x2), some (.inl (x3 + 1)), some (.inl (x4 + 1)), some (.inl 1), some (.inl ((m 54 ((am_s (44 + x4)).toNat)) + 2)), some (.inl (((mu m 54 ((am_s (44 + x4)).toNat) 0) 54 ((am_s (32 + x4)).toNat)) + (2 * ((mu m 54 ((am_s (44 + x4)).toNat) 0) 54 ((am_s (20 + x4)).toNat)))))]) hM_195 d_195_236 rfl rfl ?_
                refine r_go (pc' := 11) hM_195 d_195_239 (by decide) ?_
                exact rn_wk (by simp only [am_le, and_self]) H
              · have H := H.2 hz47
                refine r_go (pc' := 236) hM_195 d_195_219 (by decide) ?_
                refine r_sto (pc' := 239) (ls' := [some (.inr (.inr (some 53))), some (.inl b), some (.inl x2), some (.inl x3), some (.inl (x4 + 1)), some (.inl 1), some (.inl ((m 54 ((am_s (44 + x4)).toNat)) + 2)), some (.inl (((mu m 54 ((am_s (44 + x4)).toNat) 0) 54 ((am_s (32 + x4)).toNat)) + (2 * ((mu m 54 ((am_s (44 + x4)).toNat) 0) 54 ((am_s (20 + x4)).toNat)))))]) hM_195 d_195_236 rfl rfl ?_
                refine r_go (pc' := 11) hM_195 d_195_239 (by decide) ?_
                exact rn_wk (by simp only [am_le, and_self]) H
    · have H := H.2 hz3
      refine r_go (pc' := 236) hM_195 d_195_36 (by decide) ?_
      refine r_sto (pc' := 239) (ls' := [some (.inr (.inr (some 53))), some (.inl b), some (.inl x2), some (.inl x3), some (.inl (x4 + 1)), none, none, none]) hM_195 d_195_236 rfl rfl ?_
      refine r_go (pc' := 11) hM_195 d_195_239 (by decide) ?_
      exact H
theorem t_195_0 {fx : am_X0} {o : List am_V × am_S} {m : am_M} {b : Int}  (H : (WFG (m 54)) ∧ (rn fx 2 (0, 0) 195 11 [some (.inr (.inr (some 53))), some (.inl b), some (.inl (((msk (fun p => m 54 (8 + p)) (am_s 1) (m 54 0).toNat : Nat) : Int))), some (.inl 0), some (.inl 0), none, none, none] [] (st0 m) o)) : rn fx 2 (0, 0) 195 0 [some (.inr (.inr (some 53))), some (.inl b), none, none, none, none, none, none] [] (st0 m) o := by
  refine r_ld (pc' := 1) hM_195 d_195_0 rfl rfl ?_
  refine r_k (pc' := 2) (v := .inl 1) hM_195 d_195_1 rfl rfl ?_
  obtain ⟨hz1, H⟩ := H
  refine r_cl (pc' := 5) (c := (192, 0)) (a := [.inr (.inr (some 53)), .inl 1]) (q := []) hM_195 d_195_2 rfl (by decide +kernel) hM_192 rfl rfl rfl (Nat.le_of_ble_eq_true rfl) (Nat.le_of_ble_eq_true rfl) (Or.inr rfl) (c_192  m 1 hz1) (Nat.le_of_ble_eq_true rfl) ?_
  show rn fx 2 (0, 0) 195 5 [some (.inr (.inr (some 53))), some (.inl b), none, none, none, none, none, none] [.inl (((msk (fun p => m 54 (8 + p)) (am_s 1) (m 54 0).toNat : Nat) : Int))] (st0 m) o
  refine r_sto (pc' := 6) (ls' := [some (.inr (.inr (some 53))), some (.inl b), some (.inl (((msk (fun p => m 54 (8 + p)) (am_s 1) (m 54 0).toNat : Nat) : Int))), none, none, none, none, none]) hM_195 d_195_5 rfl rfl ?_
  refine r_k (pc' := 7) (v := .inl 0) hM_195 d_195_6 rfl rfl ?_
  refine r_sto (pc' := 8) (ls' := [some (.inr (.inr (some 53))), some (.inl b), some (.inl (((msk (fun p => m 54 (8 + p)) (am_s 1) (m 54 0).toNat : Nat) : Int))), some (.inl 0), none, none, none, none]) hM_195 d_195_7 rfl rfl ?_
  refine r_k (pc' := 9) (v := .inl 0) hM_195 d_195_8 rfl rfl ?_
  refine r_sto (pc' := 11) (ls' := [some (.inr (.inr (some 53))), some (.inl b), some (.inl (((msk (fun p => m 54 (8 + p)) (am_s 1) (m 54 0).toNat : Nat) : Int))), some (.inl 0), some (.inl 0), none, none, none]) hM_195 d_195_9 rfl rfl ?_
  exact H
