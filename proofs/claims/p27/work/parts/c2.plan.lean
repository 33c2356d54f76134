/-! what the law's list tells: numbers and text out of the cells c 0, c 1 .. of the script -/
def lbel (v : Int32) (n : Nat) : Nat := (v &&& 2147483647).toInt.toNat % n
theorem lbel_lt (v : Int32) {n : Nat} (h : 0 < n) : lbel v n < n := Nat.mod_lt _ h
theorem lw_b_n (v : Int32) {n : Nat} (h : 0 < n) (h2 : n < 2147483648) : lw_b v (Int32.ofNat n) = Int32.ofNat (lbel v n) := by
  obtain ⟨j, hj, e⟩ := pk_andE v 31 (m := 2147483647) (by decide)
  unfold lw_b lbel
  rw [e]
  have h3 : (nI j).toInt = (j : Int) := i_of _ (by omega)
  rw [h3, Int.toNat_natCast]
  exact pk_rem (by omega) h h2
def pCols (c : Nat → Int32) : Nat := if 0 < lbel (c 0) 4 then 4 + lbel (c 0 >>> ((2 : Int32) &&& 31)) 11 else 16
def pRows (c : Nat → Int32) : Nat := if 0 < lbel (c 0) 4 then 4 + lbel (c 0 >>> ((6 : Int32) &&& 31)) 9 else 12
def pNo (c : Nat → Int32) : Nat := 1 + lbel (c 1) 3
def pOx (c : Nat → Int32) (o : Nat) : Int32 := c 1 >>> (((3 : Int32) * Int32.ofNat o) &&& 31)
def pOct (c : Nat → Int32) (o : Nat) (j : Nat) : Nat := match j with
  | 0 => 1 + lbel (pOx c o >>> ((2 : Int32) &&& 31)) 8
  | 1 => 1 + lbel (pOx c o >>> ((5 : Int32) &&& 31)) 8
  | 2 => 1 + lbel (pOx c o >>> ((3 : Int32) &&& 31)) 9
  | _ => lbel (pOx c o >>> ((4 : Int32) &&& 31)) 1000
def pNc (c : Nat → Int32) : Nat := lbel (c 2) 4
/-- the comb made as number i: its turn is pNc c - i -/
def pCx (c : Nat → Int32) (i : Nat) : Int32 := c 2 >>> (((3 : Int32) * Int32.ofNat (pNc c - i)) &&& 31)
def pCmb (c : Nat → Int32) (i : Nat) (j : Nat) : Nat := match j with
  | 0 => lbel (pCx c i) 2
  | 1 => 1 + lbel (pCx c i >>> ((2 : Int32) &&& 31)) 8
  | _ => lbel (pCx c i >>> ((5 : Int32) &&& 31)) 17
def pNi (c : Nat → Int32) : Nat := 1 + lbel (c 3) 4
def pLev (c : Nat → Int32) : Nat → Nat
  | 0 => 350 + lbel (c 3 >>> ((3 : Int32) &&& 31)) 120
  | k + 1 => pLev c k + (1 + lbel (c 3 >>> (((4 : Int32) + Int32.ofNat k) &&& 31)) 70)
def pNd (c : Nat → Int32) : Nat := lbel (c 4) 6
/-- the order made as number i: its turn is k = pNd c - i -/
def pDx (c : Nat → Int32) (i : Nat) : Int32 := (c 5 >>> ((Int32.ofNat (pNd c - i)) &&& 31)) + (71 : Int32) * Int32.ofNat (pNd c - i)
def pKd (c : Nat → Int32) (i : Nat) : Nat := if lbel (pDx c i) 4 = 0 ∧ pNc c = 0 then 1 else lbel (pDx c i) 4
def pOrd (c : Nat → Int32) (i : Nat) (j : Nat) : Nat := match j with
  | 0 => pKd c i
  | 1 => if pKd c i = 0 then lbel (pDx c i >>> ((3 : Int32) &&& 31)) (pNc c) else if pKd c i = 3 then lbel (pDx c i >>> ((3 : Int32) &&& 31)) (pNo c) else 0
  | 2 => lbel (pDx c i >>> ((4 : Int32) &&& 31)) 5
  | 3 => lbel (pDx c i >>> ((6 : Int32) &&& 31)) 17
  | 4 => if lbel (pDx c i >>> ((7 : Int32) &&& 31)) 5 = 0 ∧ (pKd c i = 0 ∨ pKd c i = 3) then 1 else lbel (pDx c i >>> ((7 : Int32) &&& 31)) 5
  | _ => lbel (pDx c i >>> ((5 : Int32) &&& 31)) 3
/-! the text, piece by piece as it is appended -/
def tPap (c : Nat → Int32) : List Nat := if 0 < lbel (c 0) 4 then ((((([] ++ w_104) ++ dT (pCols c)) ++ w_106) ++ dT (pRows c)) ++ w_108) else []
def tOct (c : Nat → Int32) : Nat → List Nat
  | 0 => tPap c
  | o + 1 => (((((((((((tOct c o ++ w_118) ++ dT o) ++ w_120) ++ dT (pOct c o 0)) ++ w_122) ++ dT (pOct c o 1)) ++ w_124) ++ dT (pOct c o 2)) ++ w_126) ++ dT (pOct c o 3)) ++ w_128)
def tCmb (c : Nat → Int32) : Nat → List Nat
  | 0 => tOct c (pNo c)
  | i + 1 => ((((((((tCmb c i ++ w_130) ++ dT i) ++ (if pCmb c i 0 = 1 then w_135 else w_137)) ++ w_139) ++ dT (pCmb c i 1)) ++ w_141) ++ dT (pCmb c i 2)) ++ w_108)
def tLev (c : Nat → Int32) : Nat → List Nat
  | 0 => tCmb c (pNc c)
  | k + 1 => (((((tLev c k ++ w_143) ++ dT k) ++ w_145) ++ dT (pLev c k)) ++ w_108)
def tHead (c : Nat → Int32) (i : Nat) : List Nat := if pKd c i = 0 then ((([] ++ w_147) ++ dT (pOrd c i 1)) ++ w_149) else if pKd c i = 3 then ((([] ++ w_151) ++ dT (pOrd c i 1)) ++ w_149) else if pKd c i = 1 then w_153 else w_155
def tOrd (c : Nat → Int32) : Nat → List Nat
  | 0 => tLev c (pNi c)
  | i + 1 => ((((tOrd c i ++ tHead c i) ++ sumT (pOrd c i 2) (pOrd c i 3) (pNi c)) ++ testT (pOrd c i 4) (pOrd c i 5) (pNi c)) ++ w_128)
/-- the whole text of list -/
def tAll (c : Nat → Int32) : List Nat := tOrd c (pNd c)
