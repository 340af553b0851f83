/-! places of the law's rows, with written numbers -/
theorem o6_0 {α : Type} {p : Nat} (hp : p < 8) (x : Option α) : o_x ((6 : Int32) * nI p) 48 x = x := by rw [show (6 : Int32) = nI 6 from rfl, px0, ox_ (by omega) (by decide)]
theorem c6_0 {p : Nat} (hp : p < 8) : ((6 : Int32) * nI p).toNatClampNeg = 6 * p := by rw [show (6 : Int32) = nI 6 from rfl, px0, cl_ (by omega)]
theorem o6_1 {α : Type} {p : Nat} (hp : p < 8) (x : Option α) : o_x ((6 : Int32) * nI p + (1 : Int32)) 48 x = x := by rw [show (6 : Int32) = nI 6 from rfl, show (1 : Int32) = nI 1 from rfl, px_, ox_ (by omega) (by decide)]
theorem c6_1 {p : Nat} (hp : p < 8) : ((6 : Int32) * nI p + (1 : Int32)).toNatClampNeg = 6 * p + 1 := by rw [show (6 : Int32) = nI 6 from rfl, show (1 : Int32) = nI 1 from rfl, px_, cl_ (by omega)]
theorem o6_2 {α : Type} {p : Nat} (hp : p < 8) (x : Option α) : o_x ((6 : Int32) * nI p + (2 : Int32)) 48 x = x := by rw [show (6 : Int32) = nI 6 from rfl, show (2 : Int32) = nI 2 from rfl, px_, ox_ (by omega) (by decide)]
theorem c6_2 {p : Nat} (hp : p < 8) : ((6 : Int32) * nI p + (2 : Int32)).toNatClampNeg = 6 * p + 2 := by rw [show (6 : Int32) = nI 6 from rfl, show (2 : Int32) = nI 2 from rfl, px_, cl_ (by omega)]
theorem o6_3 {α : Type} {p : Nat} (hp : p < 8) (x : Option α) : o_x ((6 : Int32) * nI p + (3 : Int32)) 48 x = x := by rw [show (6 : Int32) = nI 6 from rfl, show (3 : Int32) = nI 3 from rfl, px_, ox_ (by omega) (by decide)]
theorem c6_3 {p : Nat} (hp : p < 8) : ((6 : Int32) * nI p + (3 : Int32)).toNatClampNeg = 6 * p + 3 := by rw [show (6 : Int32) = nI 6 from rfl, show (3 : Int32) = nI 3 from rfl, px_, cl_ (by omega)]
theorem o6_4 {α : Type} {p : Nat} (hp : p < 8) (x : Option α) : o_x ((6 : Int32) * nI p + (4 : Int32)) 48 x = x := by rw [show (6 : Int32) = nI 6 from rfl, show (4 : Int32) = nI 4 from rfl, px_, ox_ (by omega) (by decide)]
theorem c6_4 {p : Nat} (hp : p < 8) : ((6 : Int32) * nI p + (4 : Int32)).toNatClampNeg = 6 * p + 4 := by rw [show (6 : Int32) = nI 6 from rfl, show (4 : Int32) = nI 4 from rfl, px_, cl_ (by omega)]
theorem o6_5 {α : Type} {p : Nat} (hp : p < 8) (x : Option α) : o_x ((6 : Int32) * nI p + (5 : Int32)) 48 x = x := by rw [show (6 : Int32) = nI 6 from rfl, show (5 : Int32) = nI 5 from rfl, px_, ox_ (by omega) (by decide)]
theorem c6_5 {p : Nat} (hp : p < 8) : ((6 : Int32) * nI p + (5 : Int32)).toNatClampNeg = 6 * p + 5 := by rw [show (6 : Int32) = nI 6 from rfl, show (5 : Int32) = nI 5 from rfl, px_, cl_ (by omega)]
theorem o2_0 {α : Type} {s : Nat} (hs : s < 16) (x : Option α) : o_x ((2 : Int32) * nI s) 32 x = x := by rw [show (2 : Int32) = nI 2 from rfl, rx0, ox_ (by omega) (by decide)]
theorem c2_0 {s : Nat} (hs : s < 16) : ((2 : Int32) * nI s).toNatClampNeg = 2 * s := by rw [show (2 : Int32) = nI 2 from rfl, rx0, cl_ (by omega)]
theorem o2_1 {α : Type} {s : Nat} (hs : s < 16) (x : Option α) : o_x ((2 : Int32) * nI s + (1 : Int32)) 32 x = x := by rw [show (2 : Int32) = nI 2 from rfl, show (1 : Int32) = nI 1 from rfl, rx1, ox_ (by omega) (by decide)]
theorem c2_1 {s : Nat} (hs : s < 16) : ((2 : Int32) * nI s + (1 : Int32)).toNatClampNeg = 2 * s + 1 := by rw [show (2 : Int32) = nI 2 from rfl, show (1 : Int32) = nI 1 from rfl, rx1, cl_ (by omega)]
theorem o8_ {α : Type} {s : Nat} (hs : s < 16) (x : Option α) : o_x (nI s) 16 x = x := ox_ hs (by decide) x
theorem k_0 : (0 : Int32).toNatClampNeg = 0 := rfl
theorem k_1 : (1 : Int32).toNatClampNeg = 1 := rfl
theorem k_2 : (2 : Int32).toNatClampNeg = 2 := rfl
theorem k_3 : (3 : Int32).toNatClampNeg = 3 := rfl
theorem k_4 : (4 : Int32).toNatClampNeg = 4 := rfl
theorem k_5 : (5 : Int32).toNatClampNeg = 5 := rfl
theorem k_6 : (6 : Int32).toNatClampNeg = 6 := rfl
theorem k_7 : (7 : Int32).toNatClampNeg = 7 := rfl
theorem k_8 : (8 : Int32).toNatClampNeg = 8 := rfl
theorem k_9 : (9 : Int32).toNatClampNeg = 9 := rfl
theorem k_10 : (10 : Int32).toNatClampNeg = 10 := rfl
theorem gt_8 {i : Nat} (h : i < 8) : ¬ (8 : Int32) ≤ nI i := by rw [show (8 : Int32) = nI 8 from rfl, nI_leI (by decide) (by omega)]; omega
theorem gt_16 {i : Nat} (h : i < 16) : ¬ (16 : Int32) ≤ nI i := by rw [show (16 : Int32) = nI 16 from rfl, nI_leI (by decide) (by omega)]; omega
