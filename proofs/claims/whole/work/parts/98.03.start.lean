/-! constructors: the memory that they leave -/
def s0F (k f : Nat) : Int32 := match hk137 k with
  | .inr (_, fs) => (match fs[f]? with
    | some (.int x) => x
    | _ => 0)
  | _ => 0
def s0A (k : Nat) : Nat → Int32 := match hk137 k with
  | .inl (_, _, .inl f) => f
  | _ => fun _ => 0
def s0L (k : Nat) : Nat → Int64 := match hk137 k with
  | .inl (_, _, .inr (.inl f)) => f
  | _ => fun _ => 0
def s0R (k f : Nat) : Nat := if k = 43 then [0, 0, 44, 109, 110, 0, 111, 176].getD f 0 else k + 1 + f
def S0 : MS := (s0F, s0A, s0L, s0R)
set_option maxRecDepth 100000 in
theorem hz_0 (k : Nat) (h1 : 0 ≤ k) (h2 : k < 16) : hk137 k = HP S0 k := by
  rcases (by omega : k = 0 ∨ k = 1 ∨ k = 2 ∨ k = 3 ∨ k = 4 ∨ k = 5 ∨ k = 6 ∨ k = 7 ∨ k = 8 ∨ k = 9 ∨ k = 10 ∨ k = 11 ∨ k = 12 ∨ k = 13 ∨ k = 14 ∨ k = 15) with rfl | rfl | rfl | rfl | rfl | rfl | rfl | rfl | rfl | rfl | rfl | rfl | rfl | rfl | rfl | rfl <;> rfl
set_option maxRecDepth 100000 in
theorem hz_1 (k : Nat) (h1 : 16 ≤ k) (h2 : k < 32) : hk137 k = HP S0 k := by
  rcases (by omega : k = 16 ∨ k = 17 ∨ k = 18 ∨ k = 19 ∨ k = 20 ∨ k = 21 ∨ k = 22 ∨ k = 23 ∨ k = 24 ∨ k = 25 ∨ k = 26 ∨ k = 27 ∨ k = 28 ∨ k = 29 ∨ k = 30 ∨ k = 31) with rfl | rfl | rfl | rfl | rfl | rfl | rfl | rfl | rfl | rfl | rfl | rfl | rfl | rfl | rfl | rfl <;> rfl
set_option maxRecDepth 100000 in
theorem hz_2 (k : Nat) (h1 : 32 ≤ k) (h2 : k < 48) : hk137 k = HP S0 k := by
  rcases (by omega : k = 32 ∨ k = 33 ∨ k = 34 ∨ k = 35 ∨ k = 36 ∨ k = 37 ∨ k = 38 ∨ k = 39 ∨ k = 40 ∨ k = 41 ∨ k = 42 ∨ k = 43 ∨ k = 44 ∨ k = 45 ∨ k = 46 ∨ k = 47) with rfl | rfl | rfl | rfl | rfl | rfl | rfl | rfl | rfl | rfl | rfl | rfl | rfl | rfl | rfl | rfl <;> rfl
set_option maxRecDepth 100000 in
theorem hz_3 (k : Nat) (h1 : 48 ≤ k) (h2 : k < 64) : hk137 k = HP S0 k := by
  rcases (by omega : k = 48 ∨ k = 49 ∨ k = 50 ∨ k = 51 ∨ k = 52 ∨ k = 53 ∨ k = 54 ∨ k = 55 ∨ k = 56 ∨ k = 57 ∨ k = 58 ∨ k = 59 ∨ k = 60 ∨ k = 61 ∨ k = 62 ∨ k = 63) with rfl | rfl | rfl | rfl | rfl | rfl | rfl | rfl | rfl | rfl | rfl | rfl | rfl | rfl | rfl | rfl <;> rfl
set_option maxRecDepth 100000 in
theorem hz_4 (k : Nat) (h1 : 64 ≤ k) (h2 : k < 80) : hk137 k = HP S0 k := by
  rcases (by omega : k = 64 ∨ k = 65 ∨ k = 66 ∨ k = 67 ∨ k = 68 ∨ k = 69 ∨ k = 70 ∨ k = 71 ∨ k = 72 ∨ k = 73 ∨ k = 74 ∨ k = 75 ∨ k = 76 ∨ k = 77 ∨ k = 78 ∨ k = 79) with rfl | rfl | rfl | rfl | rfl | rfl | rfl | rfl | rfl | rfl | rfl | rfl | rfl | rfl | rfl | rfl <;> rfl
set_option maxRecDepth 100000 in
theorem hz_5 (k : Nat) (h1 : 80 ≤ k) (h2 : k < 96) : hk137 k = HP S0 k := by
  rcases (by omega : k = 80 ∨ k = 81 ∨ k = 82 ∨ k = 83 ∨ k = 84 ∨ k = 85 ∨ k = 86 ∨ k = 87 ∨ k = 88 ∨ k = 89 ∨ k = 90 ∨ k = 91 ∨ k = 92 ∨ k = 93 ∨ k = 94 ∨ k = 95) with rfl | rfl | rfl | rfl | rfl | rfl | rfl | rfl | rfl | rfl | rfl | rfl | rfl | rfl | rfl | rfl <;> rfl
set_option maxRecDepth 100000 in
theorem hz_6 (k : Nat) (h1 : 96 ≤ k) (h2 : k < 112) : hk137 k = HP S0 k := by
  rcases (by omega : k = 96 ∨ k = 97 ∨ k = 98 ∨ k = 99 ∨ k = 100 ∨ k = 101 ∨ k = 102 ∨ k = 103 ∨ k = 104 ∨ k = 105 ∨ k = 106 ∨ k = 107 ∨ k = 108 ∨ k = 109 ∨ k = 110 ∨ k = 111) with rfl | rfl | rfl | rfl | rfl | rfl | rfl | rfl | rfl | rfl | rfl | rfl | rfl | rfl | rfl | rfl <;> rfl
set_option maxRecDepth 100000 in
theorem hz_7 (k : Nat) (h1 : 112 ≤ k) (h2 : k < 128) : hk137 k = HP S0 k := by
  rcases (by omega : k = 112 ∨ k = 113 ∨ k = 114 ∨ k = 115 ∨ k = 116 ∨ k = 117 ∨ k = 118 ∨ k = 119 ∨ k = 120 ∨ k = 121 ∨ k = 122 ∨ k = 123 ∨ k = 124 ∨ k = 125 ∨ k = 126 ∨ k = 127) with rfl | rfl | rfl | rfl | rfl | rfl | rfl | rfl | rfl | rfl | rfl | rfl | rfl | rfl | rfl | rfl <;> rfl
set_option maxRecDepth 100000 in
theorem hz_8 (k : Nat) (h1 : 128 ≤ k) (h2 : k < 144) : hk137 k = HP S0 k := by
  rcases (by omega : k = 128 ∨ k = 129 ∨ k = 130 ∨ k = 131 ∨ k = 132 ∨ k = 133 ∨ k = 134 ∨ k = 135 ∨ k = 136 ∨ k = 137 ∨ k = 138 ∨ k = 139 ∨ k = 140 ∨ k = 141 ∨ k = 142 ∨ k = 143) with rfl | rfl | rfl | rfl | rfl | rfl | rfl | rfl | rfl | rfl | rfl | rfl | rfl | rfl | rfl | rfl <;> rfl
set_option maxRecDepth 100000 in
theorem hz_9 (k : Nat) (h1 : 144 ≤ k) (h2 : k < 160) : hk137 k = HP S0 k := by
  rcases (by omega : k = 144 ∨ k = 145 ∨ k = 146 ∨ k = 147 ∨ k = 148 ∨ k = 149 ∨ k = 150 ∨ k = 151 ∨ k = 152 ∨ k = 153 ∨ k = 154 ∨ k = 155 ∨ k = 156 ∨ k = 157 ∨ k = 158 ∨ k = 159) with rfl | rfl | rfl | rfl | rfl | rfl | rfl | rfl | rfl | rfl | rfl | rfl | rfl | rfl | rfl | rfl <;> rfl
set_option maxRecDepth 100000 in
theorem hz_10 (k : Nat) (h1 : 160 ≤ k) (h2 : k < 176) : hk137 k = HP S0 k := by
  rcases (by omega : k = 160 ∨ k = 161 ∨ k = 162 ∨ k = 163 ∨ k = 164 ∨ k = 165 ∨ k = 166 ∨ k = 167 ∨ k = 168 ∨ k = 169 ∨ k = 170 ∨ k = 171 ∨ k = 172 ∨ k = 173 ∨ k = 174 ∨ k = 175) with rfl | rfl | rfl | rfl | rfl | rfl | rfl | rfl | rfl | rfl | rfl | rfl | rfl | rfl | rfl | rfl <;> rfl
set_option maxRecDepth 100000 in
theorem hz_11 (k : Nat) (h1 : 176 ≤ k) (h2 : k < 192) : hk137 k = HP S0 k := by
  rcases (by omega : k = 176 ∨ k = 177 ∨ k = 178 ∨ k = 179 ∨ k = 180 ∨ k = 181 ∨ k = 182 ∨ k = 183 ∨ k = 184 ∨ k = 185 ∨ k = 186 ∨ k = 187 ∨ k = 188 ∨ k = 189 ∨ k = 190 ∨ k = 191) with rfl | rfl | rfl | rfl | rfl | rfl | rfl | rfl | rfl | rfl | rfl | rfl | rfl | rfl | rfl | rfl <;> rfl
theorem c_from_eq : upd (upd (upd (upd (upd (upd (fun _ => 0) (nI 0).toNatClampNeg (nI 0)) (nI 1).toNatClampNeg (nI 0)) (nI 2).toNatClampNeg (nI 0)) (nI 3).toNatClampNeg (nI 1)) (nI 4).toNatClampNeg (nI 1)) (nI 5).toNatClampNeg (nI 2) = c_from := by
  funext j
  match j with
  | 0 => rfl
  | 1 => rfl
  | 2 => rfl
  | 3 => rfl
  | 4 => rfl
  | 5 => rfl
  | n + 6 => rfl
theorem c_to_eq : upd (upd (upd (upd (upd (upd (fun _ => 0) (nI 0).toNatClampNeg (nI 1)) (nI 1).toNatClampNeg (nI 2)) (nI 2).toNatClampNeg (nI 3)) (nI 3).toNatClampNeg (nI 2)) (nI 4).toNatClampNeg (nI 3)) (nI 5).toNatClampNeg (nI 3) = c_to := by
  funext j
  match j with
  | 0 => rfl
  | 1 => rfl
  | 2 => rfl
  | 3 => rfl
  | 4 => rfl
  | 5 => rfl
  | n + 6 => rfl
set_option maxRecDepth 100000 in
theorem hz_193 : hk137 193 = HP S0 193 := congrArg (fun f : Nat → Int32 => (Sum.inl (0, 6, Sum.inl f) : am_E)) c_from_eq
set_option maxRecDepth 100000 in
theorem hz_194 : hk137 194 = HP S0 194 := congrArg (fun f : Nat → Int32 => (Sum.inl (0, 6, Sum.inl f) : am_E)) c_to_eq
set_option maxRecDepth 100000 in
theorem hz_12 (k : Nat) (h1 : 192 ≤ k) (h2 : k < 208) : hk137 k = HP S0 k := by
  rcases (by omega : k = 192 ∨ k = 193 ∨ k = 194 ∨ k = 195 ∨ k = 196 ∨ k = 197 ∨ k = 198 ∨ k = 199 ∨ k = 200 ∨ k = 201 ∨ k = 202 ∨ k = 203 ∨ k = 204 ∨ k = 205 ∨ k = 206 ∨ k = 207) with rfl | rfl | rfl | rfl | rfl | rfl | rfl | rfl | rfl | rfl | rfl | rfl | rfl | rfl | rfl | rfl <;> first | rfl | exact hz_193 | exact hz_194
theorem hz_hi (k : Nat) (h : 208 ≤ k) : HP S0 k = .inr (0, []) := by
  show HPk k _ _ _ _ = _
  unfold HPk
  rw [if_neg (by omega), if_neg (by omega)]
  split <;> first | omega | rfl
theorem hz_all : hk137 = HP S0 := by
  funext k
  by_cases h : k < 208
  · rcases (by omega : (0 ≤ k ∧ k < 16) ∨ (16 ≤ k ∧ k < 32) ∨ (32 ≤ k ∧ k < 48) ∨ (48 ≤ k ∧ k < 64) ∨ (64 ≤ k ∧ k < 80) ∨ (80 ≤ k ∧ k < 96) ∨ (96 ≤ k ∧ k < 112) ∨ (112 ≤ k ∧ k < 128) ∨ (128 ≤ k ∧ k < 144) ∨ (144 ≤ k ∧ k < 160) ∨ (160 ≤ k ∧ k < 176) ∨ (176 ≤ k ∧ k < 192) ∨ (192 ≤ k ∧ k < 208)) with g | g | g | g | g | g | g | g | g | g | g | g | g
    · exact hz_0 k g.1 g.2
    · exact hz_1 k g.1 g.2
    · exact hz_2 k g.1 g.2
    · exact hz_3 k g.1 g.2
    · exact hz_4 k g.1 g.2
    · exact hz_5 k g.1 g.2
    · exact hz_6 k g.1 g.2
    · exact hz_7 k g.1 g.2
    · exact hz_8 k g.1 g.2
    · exact hz_9 k g.1 g.2
    · exact hz_10 k g.1 g.2
    · exact hz_11 k g.1 g.2
    · exact hz_12 k g.1 g.2
  · rw [hi_hk137 k (by omega), hz_hi k (by omega)]
theorem aw_law1 {X : am_X} {Q : am_R → Prop} (kk : AW X 181 (16, [(2, .ref 189), (1, .ref 0), (0, .float 0)], [], 208, HP S0, 208, 92206) Q) : AW X 181 (0, [(0, .float 0)], [], 0, am_h0, 0, 0) Q := aw_law0 (by rw [hz_all]; exact kk)
