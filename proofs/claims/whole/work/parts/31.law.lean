def zq_FL : Nat := 513
def zl_ok (Y : zq_Y) (X : zq_X) (b L : Nat) (xs : Nat → Int32) : Prop := va_X b L xs ((X.2.2.1)) ((X.2.2.1)).heap ∧ b < ((X.2.2.1)).heap.size ∧ ¬ zq_A (yS Y) b
def zl_sld (xs : Nat → Int32) (L : Nat) (i : Int32) : Option Int32 := if i < 0 ∨ L ≤ i.toNatClampNeg then none else some (xs i.toNatClampNeg)
section ZL
variable {Y : zq_Y} {X : zq_X} {cc : ByteArray} {nL : Nat} {own nm : String} {ret : Option FieldType} {hh : List (Nat × Nat × Nat × Nat)} {pc : Nat} {lo : List (Nat × Value)} {st : List Value} {S : zq_S} {kc ks : Nat} {b L : Nat} {xs : Nat → Int32}
theorem zl_slen (Z : zq_ok Y X cc nL own nm ret hh) (hB : zl_ok Y X b L xs) (d : decode cc pc = .ok (.arraylength, 1)) (c : zq_W Y X (pc + 1) lo (.int (nI L) :: st) S kc ks) : zq_W Y X pc lo (.ref b :: st) S kc ks :=
  fun H locs ls ce sl a1 a2 a3 a4 a5 a6 a7 a8 a9 => va_slen Z.x Z.b hB.1 hB.2.1 hB.2.2 a2 d (c H locs ls ce sl a1 a2 a3 a4 a5 a6 a7 a8 a9)
theorem zl_sldR (Z : zq_ok Y X cc nL own nm ret hh) (hB : zl_ok Y X b L xs) (d : decode cc pc = .ok (.iaload, 1)) {i x : Int32} (h : zl_sld xs L i = some x) (c : zq_W Y X (pc + 1) lo (.int x :: st) S kc ks) : zq_W Y X pc lo (.int i :: .ref b :: st) S kc ks := by
  unfold zl_sld at h
  by_cases hi : i < 0 ∨ L ≤ i.toNatClampNeg
  · rw [if_pos hi] at h; cases h
  · rw [if_neg hi] at h
    cases h
    exact fun H locs ls ce sl a1 a2 a3 a4 a5 a6 a7 a8 a9 => va_sld Z.x Z.b hB.1 hB.2.1 hB.2.2 a2 hi d (c H locs ls ce sl a1 a2 a3 a4 a5 a6 a7 a8 a9)
end ZL
def f_Law_law_1055 (xs : Nat → Int32) (L : Nat) (k23 : Option Nat → Option Nat → Option Nat → Int32 → zq_S → Option (zq_S × Int32)) (v1 : Option Nat) (v2 : Option Nat) (v3 : Option Nat) (v4 : Int32) (S : zq_S) : Option (zq_S × Int32) :=
  k23 v1 v2 v3 (v4 + (5 : Int32)) S
def f_Law_law_1027 (xs : Nat → Int32) (L : Nat) (k23 : Option Nat → Option Nat → Option Nat → Int32 → zq_S → Option (zq_S × Int32)) (v1 : Option Nat) (v2 : Option Nat) (v3 : Option Nat) (v4 : Int32) (S : zq_S) : Option (zq_S × Int32) :=
  f_Law_law_1055 xs L k23 v1 v2 v3 v4 S
def f_Law_law_959 (xs : Nat → Int32) (L : Nat) (k23 : Option Nat → Option Nat → Option Nat → Int32 → zq_S → Option (zq_S × Int32)) (v1 : Option Nat) (v2 : Option Nat) (v3 : Option Nat) (v4 : Int32) (S : zq_S) : Option (zq_S × Int32) :=
  f_Law_law_1055 xs L k23 v1 v2 v3 v4 S
def f_Law_law_891 (xs : Nat → Int32) (L : Nat) (k23 : Option Nat → Option Nat → Option Nat → Int32 → zq_S → Option (zq_S × Int32)) (v1 : Option Nat) (v2 : Option Nat) (v3 : Option Nat) (v4 : Int32) (S : zq_S) : Option (zq_S × Int32) :=
  f_Law_law_1055 xs L k23 v1 v2 v3 v4 S
def f_Law_law_786 (xs : Nat → Int32) (L : Nat) (k23 : Option Nat → Option Nat → Option Nat → Int32 → zq_S → Option (zq_S × Int32)) (v1 : Option Nat) (v2 : Option Nat) (v3 : Option Nat) (v4 : Int32) (S : zq_S) : Option (zq_S × Int32) :=
  f_Law_law_1055 xs L k23 v1 v2 v3 v4 S
def f_Law_law_742 (xs : Nat → Int32) (L : Nat) (k23 : Option Nat → Option Nat → Option Nat → Int32 → zq_S → Option (zq_S × Int32)) (v1 : Option Nat) (v2 : Option Nat) (v3 : Option Nat) (v4 : Int32) (S : zq_S) : Option (zq_S × Int32) :=
  f_Law_law_1055 xs L k23 v1 v2 v3 v4 S
def f_Law_law_698 (xs : Nat → Int32) (L : Nat) (k23 : Option Nat → Option Nat → Option Nat → Int32 → zq_S → Option (zq_S × Int32)) (v1 : Option Nat) (v2 : Option Nat) (v3 : Option Nat) (v4 : Int32) (S : zq_S) : Option (zq_S × Int32) :=
  f_Law_law_1055 xs L k23 v1 v2 v3 v4 S
def f_Law_law_630 (xs : Nat → Int32) (L : Nat) (k23 : Option Nat → Option Nat → Option Nat → Int32 → zq_S → Option (zq_S × Int32)) (v1 : Option Nat) (v2 : Option Nat) (v3 : Option Nat) (v4 : Int32) (S : zq_S) : Option (zq_S × Int32) :=
  f_Law_law_1055 xs L k23 v1 v2 v3 v4 S
def f_Law_law_550 (xs : Nat → Int32) (L : Nat) (k23 : Option Nat → Option Nat → Option Nat → Int32 → zq_S → Option (zq_S × Int32)) (v1 : Option Nat) (v2 : Option Nat) (v3 : Option Nat) (v4 : Int32) (S : zq_S) : Option (zq_S × Int32) :=
  f_Law_law_1055 xs L k23 v1 v2 v3 v4 S
def f_Law_law_470 (xs : Nat → Int32) (L : Nat) (k23 : Option Nat → Option Nat → Option Nat → Int32 → zq_S → Option (zq_S × Int32)) (v1 : Option Nat) (v2 : Option Nat) (v3 : Option Nat) (v4 : Int32) (S : zq_S) : Option (zq_S × Int32) :=
  f_Law_law_1055 xs L k23 v1 v2 v3 v4 S
def f_Law_law_390 (xs : Nat → Int32) (L : Nat) (k23 : Option Nat → Option Nat → Option Nat → Int32 → zq_S → Option (zq_S × Int32)) (v1 : Option Nat) (v2 : Option Nat) (v3 : Option Nat) (v4 : Int32) (S : zq_S) : Option (zq_S × Int32) :=
  f_Law_law_1055 xs L k23 v1 v2 v3 v4 S
def f_Law_law_322 (xs : Nat → Int32) (L : Nat) (k23 : Option Nat → Option Nat → Option Nat → Int32 → zq_S → Option (zq_S × Int32)) (v1 : Option Nat) (v2 : Option Nat) (v3 : Option Nat) (v4 : Int32) (S : zq_S) : Option (zq_S × Int32) :=
  f_Law_law_1055 xs L k23 v1 v2 v3 v4 S
def f_Law_law_205 (xs : Nat → Int32) (L : Nat) (k23 : Option Nat → Option Nat → Option Nat → Int32 → zq_S → Option (zq_S × Int32)) (v1 : Option Nat) (v2 : Option Nat) (v3 : Option Nat) (v4 : Int32) (s0 : Int32) (s1 : Option Nat) (s2 : Int32) (S : zq_S) : Option (zq_S × Int32) :=
  (s1).bind fun a1 =>
  if zs_is S a1 4 = true then
  zs_b (f_Mo_track a1 s2 S) fun S4 x5 =>
  if s0 = x5 then
    f_Law_law_1055 xs L k23 v1 v2 v3 v4 S4
  else
    if (0 : Int32) = 0 ∨ (0 : Int32) = 1 then some (S4, (0 : Int32)) else none
  else none
def f_Law_law_187 (xs : Nat → Int32) (L : Nat) (k23 : Option Nat → Option Nat → Option Nat → Int32 → zq_S → Option (zq_S × Int32)) (v1 : Option Nat) (v2 : Option Nat) (v3 : Option Nat) (v4 : Int32) (s0 : Option Nat) (s1 : Int32) (S : zq_S) : Option (zq_S × Int32) :=
  (s0).bind fun a1 =>
  if zs_is S a1 3 = true then
  zs_b (f_CT_track a1 s1 S) fun S4 x5 =>
  (zl_sld xs L (v4 + (1 : Int32))).bind fun x10 =>
  if x10 = 0 then
    f_Law_law_205 xs L k23 v1 v2 v3 v4 x5 v2 (0 : Int32) S4
  else
    f_Law_law_205 xs L k23 v1 v2 v3 v4 x5 v2 (1 : Int32) S4
  else none
def f_Law_law_169 (xs : Nat → Int32) (L : Nat) (k23 : Option Nat → Option Nat → Option Nat → Int32 → zq_S → Option (zq_S × Int32)) (v1 : Option Nat) (v2 : Option Nat) (v3 : Option Nat) (v4 : Int32) (S : zq_S) : Option (zq_S × Int32) :=
  f_Law_law_1055 xs L k23 v1 v2 v3 v4 S
def f_Law_law_23 (xs : Nat → Int32) (L : Nat) (k23 : Option Nat → Option Nat → Option Nat → Int32 → zq_S → Option (zq_S × Int32)) (v1 : Option Nat) (v2 : Option Nat) (v3 : Option Nat) (v4 : Int32) (S : zq_S) : Option (zq_S × Int32) :=
  if ((nI L) - (5 : Int32)) < v4 then
    if (1 : Int32) = 0 ∨ (1 : Int32) = 1 then some (S, (1 : Int32)) else none
  else
    (zl_sld xs L v4).bind fun x3 =>
    if (x3 &&& (15 : Int32)) = 0 then
      (zl_sld xs L (v4 + (1 : Int32))).bind fun x5 =>
      zs_b (f_Law_author v1 x5 v3 S) fun S7 x8 =>
      (zl_sld xs L (v4 + (1 : Int32))).bind fun x10 =>
      (v2).bind fun a11 =>
      if zs_is S7 a11 4 = true then
      zs_b (f_Mo_author a11 x10 S7) fun S14 x15 =>
      if zs_is S14 a11 4 = true then
      zs_b (f_Mo_thrown a11 S14) fun S20 x21 =>
      if x21 = x8 then
        if x8 = 0 then
          (v3).bind fun a25 =>
          (zs_lal S20 a25 0 (0 : Int32)).bind fun x27 =>
          if (lg_cmp x27 x15.toInt64) = 0 then
            f_Law_law_169 xs L k23 v1 (some a11) (some a25) v4 S20
          else
            if (0 : Int32) = 0 ∨ (0 : Int32) = 1 then some (S20, (0 : Int32)) else none
        else
          f_Law_law_169 xs L k23 v1 (some a11) v3 v4 S20
      else
        if (0 : Int32) = 0 ∨ (0 : Int32) = 1 then some (S20, (0 : Int32)) else none
      else none
      else none
    else
      if (x3 &&& (15 : Int32)) = 1 then
        (zl_sld xs L (v4 + (1 : Int32))).bind fun x32 =>
        if x32 = 0 then
          f_Law_law_187 xs L k23 v1 v2 v3 v4 v1 (0 : Int32) S
        else
          f_Law_law_187 xs L k23 v1 v2 v3 v4 v1 (1 : Int32) S
      else
        if (x3 &&& (15 : Int32)) = 2 then
          (zl_sld xs L (v4 + (1 : Int32))).bind fun x34 =>
          (zl_sld xs L (v4 + (2 : Int32))).bind fun x36 =>
          (zl_sld xs L (v4 + (3 : Int32))).bind fun x38 =>
          (zl_sld xs L (v4 + (4 : Int32))).bind fun x40 =>
          zs_b (f_Law_insert v1 x34 ((zf_lshl x36.toInt64 (32 : Int32)) ||| (x38.toInt64 &&& (4294967295 : Int64))) x40 v3 S) fun S42 x43 =>
          (zl_sld xs L (v4 + (1 : Int32))).bind fun x45 =>
          (zl_sld xs L (v4 + (2 : Int32))).bind fun x47 =>
          (zl_sld xs L (v4 + (3 : Int32))).bind fun x49 =>
          (zl_sld xs L (v4 + (4 : Int32))).bind fun x51 =>
          (v2).bind fun a52 =>
          if zs_is S42 a52 4 = true then
          zs_b (f_Mo_insert a52 x45 ((zf_lshl x47.toInt64 (32 : Int32)) ||| (x49.toInt64 &&& (4294967295 : Int64))) x51 S42) fun S55 x56 =>
          if zs_is S55 a52 4 = true then
          zs_b (f_Mo_thrown a52 S55) fun S61 x62 =>
          if x62 = x43 then
            if x43 = 0 then
              (v3).bind fun a66 =>
              (zs_lal S61 a66 0 (0 : Int32)).bind fun x68 =>
              if (lg_cmp x68 x56.toInt64) = 0 then
                f_Law_law_322 xs L k23 v1 (some a52) (some a66) v4 S61
              else
                if (0 : Int32) = 0 ∨ (0 : Int32) = 1 then some (S61, (0 : Int32)) else none
            else
              f_Law_law_322 xs L k23 v1 (some a52) v3 v4 S61
          else
            if (0 : Int32) = 0 ∨ (0 : Int32) = 1 then some (S61, (0 : Int32)) else none
          else none
          else none
        else
          if (x3 &&& (15 : Int32)) = 3 then
            (zl_sld xs L (v4 + (1 : Int32))).bind fun x73 =>
            (zl_sld xs L (v4 + (2 : Int32))).bind fun x75 =>
            zs_b (f_Law_erase v1 x73 x75 v3 S) fun S77 x78 =>
            (zl_sld xs L (v4 + (1 : Int32))).bind fun x80 =>
            (zl_sld xs L (v4 + (2 : Int32))).bind fun x82 =>
            (v2).bind fun a83 =>
            if zs_is S77 a83 4 = true then
            zs_b (f_Mo_erase a83 x80 x82 S77) fun S86 x87 =>
            if zs_is S86 a83 4 = true then
            zs_b (f_Mo_thrown a83 S86) fun S92 x93 =>
            if x93 = x78 then
              if x78 = 0 then
                (v3).bind fun a97 =>
                (zs_lal S92 a97 0 (0 : Int32)).bind fun x99 =>
                if (lg_cmp x99 x87.toInt64) = 0 then
                  f_Law_law_390 xs L k23 v1 (some a83) (some a97) v4 S92
                else
                  if (0 : Int32) = 0 ∨ (0 : Int32) = 1 then some (S92, (0 : Int32)) else none
              else
                f_Law_law_390 xs L k23 v1 (some a83) v3 v4 S92
            else
              if (0 : Int32) = 0 ∨ (0 : Int32) = 1 then some (S92, (0 : Int32)) else none
            else none
            else none
          else
            if (x3 &&& (15 : Int32)) = 4 then
              (zl_sld xs L (v4 + (1 : Int32))).bind fun x104 =>
              (zl_sld xs L (v4 + (2 : Int32))).bind fun x106 =>
              (zl_sld xs L (v4 + (3 : Int32))).bind fun x108 =>
              zs_b (f_Law_format v1 x104 x106 x108 v3 S) fun S110 x111 =>
              (zl_sld xs L (v4 + (1 : Int32))).bind fun x113 =>
              (zl_sld xs L (v4 + (2 : Int32))).bind fun x115 =>
              (zl_sld xs L (v4 + (3 : Int32))).bind fun x117 =>
              (v2).bind fun a118 =>
              if zs_is S110 a118 4 = true then
              zs_b (f_Mo_format a118 x113 x115 x117 S110) fun S121 x122 =>
              if zs_is S121 a118 4 = true then
              zs_b (f_Mo_thrown a118 S121) fun S127 x128 =>
              if x128 = x111 then
                if x111 = 0 then
                  (v3).bind fun a132 =>
                  (zs_lal S127 a132 0 (0 : Int32)).bind fun x134 =>
                  if (lg_cmp x134 x122.toInt64) = 0 then
                    f_Law_law_470 xs L k23 v1 (some a118) (some a132) v4 S127
                  else
                    if (0 : Int32) = 0 ∨ (0 : Int32) = 1 then some (S127, (0 : Int32)) else none
                else
                  f_Law_law_470 xs L k23 v1 (some a118) v3 v4 S127
              else
                if (0 : Int32) = 0 ∨ (0 : Int32) = 1 then some (S127, (0 : Int32)) else none
              else none
              else none
            else
              if (x3 &&& (15 : Int32)) = 5 then
                (zl_sld xs L (v4 + (1 : Int32))).bind fun x139 =>
                (zl_sld xs L (v4 + (2 : Int32))).bind fun x141 =>
                (zl_sld xs L (v4 + (3 : Int32))).bind fun x143 =>
                zs_b (f_Law_accept v1 x139 x141 x143 v3 S) fun S145 x146 =>
                (zl_sld xs L (v4 + (1 : Int32))).bind fun x148 =>
                (zl_sld xs L (v4 + (2 : Int32))).bind fun x150 =>
                (zl_sld xs L (v4 + (3 : Int32))).bind fun x152 =>
                (v2).bind fun a153 =>
                if zs_is S145 a153 4 = true then
                zs_b (f_Mo_accept a153 x148 x150 x152 S145) fun S156 x157 =>
                if zs_is S156 a153 4 = true then
                zs_b (f_Mo_thrown a153 S156) fun S162 x163 =>
                if x163 = x146 then
                  if x146 = 0 then
                    (v3).bind fun a167 =>
                    (zs_lal S162 a167 0 (0 : Int32)).bind fun x169 =>
                    if (lg_cmp x169 x157.toInt64) = 0 then
                      f_Law_law_550 xs L k23 v1 (some a153) (some a167) v4 S162
                    else
                      if (0 : Int32) = 0 ∨ (0 : Int32) = 1 then some (S162, (0 : Int32)) else none
                  else
                    f_Law_law_550 xs L k23 v1 (some a153) v3 v4 S162
                else
                  if (0 : Int32) = 0 ∨ (0 : Int32) = 1 then some (S162, (0 : Int32)) else none
                else none
                else none
              else
                if (x3 &&& (15 : Int32)) = 6 then
                  (zl_sld xs L (v4 + (1 : Int32))).bind fun x174 =>
                  (zl_sld xs L (v4 + (2 : Int32))).bind fun x176 =>
                  (zl_sld xs L (v4 + (3 : Int32))).bind fun x178 =>
                  zs_b (f_Law_reject v1 x174 x176 x178 v3 S) fun S180 x181 =>
                  (zl_sld xs L (v4 + (1 : Int32))).bind fun x183 =>
                  (zl_sld xs L (v4 + (2 : Int32))).bind fun x185 =>
                  (zl_sld xs L (v4 + (3 : Int32))).bind fun x187 =>
                  (v2).bind fun a188 =>
                  if zs_is S180 a188 4 = true then
                  zs_b (f_Mo_reject a188 x183 x185 x187 S180) fun S191 x192 =>
                  if zs_is S191 a188 4 = true then
                  zs_b (f_Mo_thrown a188 S191) fun S197 x198 =>
                  if x198 = x181 then
                    if x181 = 0 then
                      (v3).bind fun a202 =>
                      (zs_lal S197 a202 0 (0 : Int32)).bind fun x204 =>
                      if (lg_cmp x204 x192.toInt64) = 0 then
                        f_Law_law_630 xs L k23 v1 (some a188) (some a202) v4 S197
                      else
                        if (0 : Int32) = 0 ∨ (0 : Int32) = 1 then some (S197, (0 : Int32)) else none
                    else
                      f_Law_law_630 xs L k23 v1 (some a188) v3 v4 S197
                  else
                    if (0 : Int32) = 0 ∨ (0 : Int32) = 1 then some (S197, (0 : Int32)) else none
                  else none
                  else none
                else
                  if (x3 &&& (15 : Int32)) = 7 then
                    zs_b (f_Law_open v1 S) fun S209 x210 =>
                    (v2).bind fun a211 =>
                    if zs_is S209 a211 4 = true then
                    zs_b (f_Mo_open a211 S209) fun S214 _ =>
                    if zs_is S214 a211 4 = true then
                    zs_b (f_Mo_thrown a211 S214) fun S220 x221 =>
                    if x221 = x210 then
                      f_Law_law_1055 xs L k23 v1 (some a211) v3 v4 S220
                    else
                      if (0 : Int32) = 0 ∨ (0 : Int32) = 1 then some (S220, (0 : Int32)) else none
                    else none
                    else none
                  else
                    if (x3 &&& (15 : Int32)) = 8 then
                      zs_b (f_Law_close v1 v3 S) fun S227 x228 =>
                      (v2).bind fun a229 =>
                      if zs_is S227 a229 4 = true then
                      zs_b (f_Mo_close a229 S227) fun S232 x233 =>
                      if zs_is S232 a229 4 = true then
                      zs_b (f_Mo_thrown a229 S232) fun S238 x239 =>
                      if x239 = x228 then
                        if x228 = 0 then
                          (v3).bind fun a243 =>
                          (zs_lal S238 a243 0 (0 : Int32)).bind fun x245 =>
                          if (lg_cmp x245 x233.toInt64) = 0 then
                            f_Law_law_698 xs L k23 v1 (some a229) (some a243) v4 S238
                          else
                            if (0 : Int32) = 0 ∨ (0 : Int32) = 1 then some (S238, (0 : Int32)) else none
                        else
                          f_Law_law_698 xs L k23 v1 (some a229) v3 v4 S238
                      else
                        if (0 : Int32) = 0 ∨ (0 : Int32) = 1 then some (S238, (0 : Int32)) else none
                      else none
                      else none
                    else
                      if (x3 &&& (15 : Int32)) = 9 then
                        zs_b (f_Law_undo v1 v3 S) fun S250 x251 =>
                        (v2).bind fun a252 =>
                        if zs_is S250 a252 4 = true then
                        zs_b (f_Mo_undo a252 S250) fun S255 x256 =>
                        if zs_is S255 a252 4 = true then
                        zs_b (f_Mo_thrown a252 S255) fun S261 x262 =>
                        if x262 = x251 then
                          if x251 = 0 then
                            (v3).bind fun a266 =>
                            (zs_lal S261 a266 0 (0 : Int32)).bind fun x268 =>
                            if (lg_cmp x268 x256.toInt64) = 0 then
                              f_Law_law_742 xs L k23 v1 (some a252) (some a266) v4 S261
                            else
                              if (0 : Int32) = 0 ∨ (0 : Int32) = 1 then some (S261, (0 : Int32)) else none
                          else
                            f_Law_law_742 xs L k23 v1 (some a252) v3 v4 S261
                        else
                          if (0 : Int32) = 0 ∨ (0 : Int32) = 1 then some (S261, (0 : Int32)) else none
                        else none
                        else none
                      else
                        if (x3 &&& (15 : Int32)) = 10 then
                          zs_b (f_Law_redo v1 v3 S) fun S273 x274 =>
                          (v2).bind fun a275 =>
                          if zs_is S273 a275 4 = true then
                          zs_b (f_Mo_redo a275 S273) fun S278 x279 =>
                          if zs_is S278 a275 4 = true then
                          zs_b (f_Mo_thrown a275 S278) fun S284 x285 =>
                          if x285 = x274 then
                            if x274 = 0 then
                              (v3).bind fun a289 =>
                              (zs_lal S284 a289 0 (0 : Int32)).bind fun x291 =>
                              if (lg_cmp x291 x279.toInt64) = 0 then
                                f_Law_law_786 xs L k23 v1 (some a275) (some a289) v4 S284
                              else
                                if (0 : Int32) = 0 ∨ (0 : Int32) = 1 then some (S284, (0 : Int32)) else none
                            else
                              f_Law_law_786 xs L k23 v1 (some a275) v3 v4 S284
                          else
                            if (0 : Int32) = 0 ∨ (0 : Int32) = 1 then some (S284, (0 : Int32)) else none
                          else none
                          else none
                        else
                          if (x3 &&& (15 : Int32)) = 11 then
                            (zl_sld xs L (v4 + (1 : Int32))).bind fun x296 =>
                            (v1).bind fun a297 =>
                            if zs_is S a297 3 = true then
                            zs_b (f_CT_length a297 x296 S) fun S300 x301 =>
                            (zl_sld xs L (v4 + (1 : Int32))).bind fun x306 =>
                            (v2).bind fun a307 =>
                            if zs_is S300 a307 4 = true then
                            zs_b (f_Mo_length a307 x306 S300) fun S310 x311 =>
                            if x301 = x311 then
                              f_Law_law_1055 xs L k23 (some a297) (some a307) v3 v4 S310
                            else
                              if (0 : Int32) = 0 ∨ (0 : Int32) = 1 then some (S310, (0 : Int32)) else none
                            else none
                            else none
                          else
                            if (x3 &&& (15 : Int32)) = 12 then
                              (zl_sld xs L (v4 + (1 : Int32))).bind fun x317 =>
                              (zl_sld xs L (v4 + (2 : Int32))).bind fun x319 =>
                              (zl_sld xs L (v4 + (3 : Int32))).bind fun x321 =>
                              zs_b (f_Law_seen v1 x317 x319 x321 v3 S) fun S323 x324 =>
                              (zl_sld xs L (v4 + (1 : Int32))).bind fun x326 =>
                              (zl_sld xs L (v4 + (2 : Int32))).bind fun x328 =>
                              (zl_sld xs L (v4 + (3 : Int32))).bind fun x330 =>
                              (v2).bind fun a331 =>
                              if zs_is S323 a331 4 = true then
                              zs_b (f_Mo_seen a331 x326 x328 x330 S323) fun S334 x335 =>
                              if zs_is S334 a331 4 = true then
                              zs_b (f_Mo_thrown a331 S334) fun S340 x341 =>
                              if x341 = x324 then
                                if x324 = 0 then
                                  (v3).bind fun a345 =>
                                  (zs_lal S340 a345 0 (0 : Int32)).bind fun x347 =>
                                  if (lg_cmp x347 x335.toInt64) = 0 then
                                    f_Law_law_891 xs L k23 v1 (some a331) (some a345) v4 S340
                                  else
                                    if (0 : Int32) = 0 ∨ (0 : Int32) = 1 then some (S340, (0 : Int32)) else none
                                else
                                  f_Law_law_891 xs L k23 v1 (some a331) v3 v4 S340
                              else
                                if (0 : Int32) = 0 ∨ (0 : Int32) = 1 then some (S340, (0 : Int32)) else none
                              else none
                              else none
                            else
                              if (x3 &&& (15 : Int32)) = 13 then
                                (zl_sld xs L (v4 + (1 : Int32))).bind fun x352 =>
                                (zl_sld xs L (v4 + (2 : Int32))).bind fun x354 =>
                                zs_b (f_Law_mark v1 x352 x354 v3 S) fun S356 x357 =>
                                (zl_sld xs L (v4 + (1 : Int32))).bind fun x359 =>
                                (zl_sld xs L (v4 + (2 : Int32))).bind fun x361 =>
                                (v2).bind fun a362 =>
                                if zs_is S356 a362 4 = true then
                                zs_b (f_Mo_mark a362 x359 x361 S356) fun S365 x366 =>
                                if zs_is S365 a362 4 = true then
                                zs_b (f_Mo_thrown a362 S365) fun S371 x372 =>
                                if x372 = x357 then
                                  if x357 = 0 then
                                    (v3).bind fun a376 =>
                                    (zs_lal S371 a376 0 (0 : Int32)).bind fun x378 =>
                                    if (lg_cmp x378 x366.toInt64) = 0 then
                                      f_Law_law_959 xs L k23 v1 (some a362) (some a376) v4 S371
                                    else
                                      if (0 : Int32) = 0 ∨ (0 : Int32) = 1 then some (S371, (0 : Int32)) else none
                                  else
                                    f_Law_law_959 xs L k23 v1 (some a362) v3 v4 S371
                                else
                                  if (0 : Int32) = 0 ∨ (0 : Int32) = 1 then some (S371, (0 : Int32)) else none
                                else none
                                else none
                              else
                                if (x3 &&& (15 : Int32)) = 14 then
                                  (zl_sld xs L (v4 + (1 : Int32))).bind fun x383 =>
                                  (zl_sld xs L (v4 + (2 : Int32))).bind fun x385 =>
                                  zs_b (f_Law_next v1 x383 x385 v3 S) fun S387 x388 =>
                                  (zl_sld xs L (v4 + (1 : Int32))).bind fun x390 =>
                                  (zl_sld xs L (v4 + (2 : Int32))).bind fun x392 =>
                                  (v2).bind fun a393 =>
                                  if zs_is S387 a393 4 = true then
                                  zs_b (f_Mo_next a393 x390 x392 S387) fun S396 x397 =>
                                  if zs_is S396 a393 4 = true then
                                  zs_b (f_Mo_thrown a393 S396) fun S402 x403 =>
                                  if x403 = x388 then
                                    if x388 = 0 then
                                      (v3).bind fun a407 =>
                                      (zs_lal S402 a407 0 (0 : Int32)).bind fun x409 =>
                                      if (lg_cmp x409 x397.toInt64) = 0 then
                                        f_Law_law_1027 xs L k23 v1 (some a393) (some a407) v4 S402
                                      else
                                        if (0 : Int32) = 0 ∨ (0 : Int32) = 1 then some (S402, (0 : Int32)) else none
                                    else
                                      f_Law_law_1027 xs L k23 v1 (some a393) v3 v4 S402
                                  else
                                    if (0 : Int32) = 0 ∨ (0 : Int32) = 1 then some (S402, (0 : Int32)) else none
                                  else none
                                  else none
                                else
                                  if (x3 &&& (15 : Int32)) = 15 then
                                    (zl_sld xs L (v4 + (1 : Int32))).bind fun x414 =>
                                    (v1).bind fun a415 =>
                                    if zs_is S a415 3 = true then
                                    zs_b (f_CT_count a415 x414 S) fun S418 x419 =>
                                    (zl_sld xs L (v4 + (1 : Int32))).bind fun x424 =>
                                    (v2).bind fun a425 =>
                                    if zs_is S418 a425 4 = true then
                                    zs_b (f_Mo_count a425 x424 S418) fun S428 x429 =>
                                    if x419 = x429 then
                                      f_Law_law_1055 xs L k23 (some a415) (some a425) v3 v4 S428
                                    else
                                      if (0 : Int32) = 0 ∨ (0 : Int32) = 1 then some (S428, (0 : Int32)) else none
                                    else none
                                    else none
                                  else
                                    f_Law_law_1055 xs L k23 v1 v2 v3 v4 S
def g_Law_law_23 (xs : Nat → Int32) (L : Nat)  : Nat → Option Nat → Option Nat → Option Nat → Int32 → zq_S → Option (zq_S × Int32)
  | 0 => fun _ _ _ _ _ => none
  | n + 1 => fun v1 v2 v3 v4 S => f_Law_law_23 xs L  (g_Law_law_23 xs L  n) v1 v2 v3 v4 S
def f_Law_law (xs : Nat → Int32) (L : Nat)  (S : zq_S) : Option (zq_S × Int32) :=
  zs_b (f_CT_init (S.2.1) (zq_n S (.inr (3, [.null, .null, .null, .null, .int 0, .int 0])))) fun S6 _ =>
  zs_b (f_Mo_init (S6.2.1) (zq_n S6 (.inr (4, [.int 0, .int 0, .int 0, .int 0, .null, .int 0, .null, .int 0, .null, .int 0, .null, .null, .int 0, .int 0, .null, .null, .null, .int 0, .int 0, .int 0])))) fun S13 _ =>
  g_Law_law_23 xs L  zq_FL (some (S.2.1)) (some (S6.2.1)) (some (S13.2.1)) (0 : Int32) (zq_n S13 (.inl (0, 1, .inr (.inl (fun _ => 0)))))
set_option maxHeartbeats 4000000 in
set_option maxRecDepth 100000 in
theorem r_Law_law_1055 {l : Launch} (hl : l.stackTraces = false) {G : zq_G} {S0 T : zq_S} {v : Int32} {X : zq_X} {b L : Nat} {xs : Nat → Int32} (Z : Z_Law_law l G S0 T v X) (hB : zl_ok (Y_Law_law l G S0 T v) X b L xs) {K Q : Nat} (hK : K + 8 ≤ 601024) (hQ : Q + 1222 ≤ 7293034) {k23 : Option Nat → Option Nat → Option Nat → Int32 → zq_S → Option (zq_S × Int32)} (hk23 : ∀ (v1 : Option Nat) (v2 : Option Nat) (v3 : Option Nat) (v4 : Int32) (S : zq_S), k23 v1 v2 v3 v4 S = some (T, v) → zq_W (Y_Law_law l G S0 T v) X 23 [(0, .ref b), (1, va_rf v1), (2, va_rf v2), (3, va_rf v3), (4, .int v4)] [] S (K + 8) (Q + 1222)) {v1 : Option Nat} {v2 : Option Nat} {v3 : Option Nat} {v4 : Int32} {S : zq_S} (hf : f_Law_law_1055 xs L k23 v1 v2 v3 v4 S = some (T, v)) : zq_W (Y_Law_law l G S0 T v) X 1055 [(0, .ref b), (1, va_rf v1), (2, va_rf v2), (3, va_rf v3), (4, .int v4)] [] S (K + 8) (Q + 1222) := by
  unfold f_Law_law_1055 at hf
  refine zq_iinc Z (v4 + (5 : Int32)) [(4, .int (v4 + (5 : Int32))), (0, .ref b), (1, va_rf v1), (2, va_rf v2), (3, va_rf v3)] d_Law_law_1055 4 rfl rfl (by decide) (by cases v3 <;> rfl) ?_
  refine zq_goto Z 23 d_Law_law_1058 (by decide) ?_
  refine zq_sub (lo' := [(0, .ref b), (1, va_rf v1), (2, va_rf v2), (3, va_rf v3), (4, .int (v4 + (5 : Int32)))]) [1, 2, 3, 4, 0] rfl ?_
  refine zq_wid (kc' := (K + 8)) (ks' := (Q + 1222)) (by show K + 8 ≤ (K + 8); omega) (by show Q + 1222 ≤ (Q + 1222); omega) ?_
  exact hk23 _ _ _ _ _ hf
set_option maxHeartbeats 4000000 in
set_option maxRecDepth 100000 in
theorem r_Law_law_1027 {l : Launch} (hl : l.stackTraces = false) {G : zq_G} {S0 T : zq_S} {v : Int32} {X : zq_X} {b L : Nat} {xs : Nat → Int32} (Z : Z_Law_law l G S0 T v X) (hB : zl_ok (Y_Law_law l G S0 T v) X b L xs) {K Q : Nat} (hK : K + 8 ≤ 601024) (hQ : Q + 1222 ≤ 7293034) {k23 : Option Nat → Option Nat → Option Nat → Int32 → zq_S → Option (zq_S × Int32)} (hk23 : ∀ (v1 : Option Nat) (v2 : Option Nat) (v3 : Option Nat) (v4 : Int32) (S : zq_S), k23 v1 v2 v3 v4 S = some (T, v) → zq_W (Y_Law_law l G S0 T v) X 23 [(0, .ref b), (1, va_rf v1), (2, va_rf v2), (3, va_rf v3), (4, .int v4)] [] S (K + 8) (Q + 1222)) {v1 : Option Nat} {v2 : Option Nat} {v3 : Option Nat} {v4 : Int32} {S : zq_S} (hf : f_Law_law_1027 xs L k23 v1 v2 v3 v4 S = some (T, v)) : zq_W (Y_Law_law l G S0 T v) X 1027 [(0, .ref b), (1, va_rf v1), (2, va_rf v2), (3, va_rf v3), (4, .int v4)] [] S (K + 2) (Q + 12) := by
  unfold f_Law_law_1027 at hf
  refine zq_goto Z 1055 d_Law_law_1027 (by decide) ?_
  refine zq_sub (lo' := [(0, .ref b), (1, va_rf v1), (2, va_rf v2), (3, va_rf v3), (4, .int v4)]) [0, 1, 2, 3, 4] rfl ?_
  refine zq_wid (kc' := (K + 8)) (ks' := (Q + 1222)) (by show K + 2 ≤ (K + 8); omega) (by show Q + 12 ≤ (Q + 1222); omega) ?_
  exact r_Law_law_1055 hl Z hB hK hQ hk23 hf
set_option maxHeartbeats 4000000 in
set_option maxRecDepth 100000 in
theorem r_Law_law_959 {l : Launch} (hl : l.stackTraces = false) {G : zq_G} {S0 T : zq_S} {v : Int32} {X : zq_X} {b L : Nat} {xs : Nat → Int32} (Z : Z_Law_law l G S0 T v X) (hB : zl_ok (Y_Law_law l G S0 T v) X b L xs) {K Q : Nat} (hK : K + 8 ≤ 601024) (hQ : Q + 1222 ≤ 7293034) {k23 : Option Nat → Option Nat → Option Nat → Int32 → zq_S → Option (zq_S × Int32)} (hk23 : ∀ (v1 : Option Nat) (v2 : Option Nat) (v3 : Option Nat) (v4 : Int32) (S : zq_S), k23 v1 v2 v3 v4 S = some (T, v) → zq_W (Y_Law_law l G S0 T v) X 23 [(0, .ref b), (1, va_rf v1), (2, va_rf v2), (3, va_rf v3), (4, .int v4)] [] S (K + 8) (Q + 1222)) {v1 : Option Nat} {v2 : Option Nat} {v3 : Option Nat} {v4 : Int32} {S : zq_S} (hf : f_Law_law_959 xs L k23 v1 v2 v3 v4 S = some (T, v)) : zq_W (Y_Law_law l G S0 T v) X 959 [(0, .ref b), (1, va_rf v1), (2, va_rf v2), (3, va_rf v3), (4, .int v4)] [] S (K + 2) (Q + 12) := by
  unfold f_Law_law_959 at hf
  refine zq_goto Z 1055 d_Law_law_959 (by decide) ?_
  refine zq_sub (lo' := [(0, .ref b), (1, va_rf v1), (2, va_rf v2), (3, va_rf v3), (4, .int v4)]) [0, 1, 2, 3, 4] rfl ?_
  refine zq_wid (kc' := (K + 8)) (ks' := (Q + 1222)) (by show K + 2 ≤ (K + 8); omega) (by show Q + 12 ≤ (Q + 1222); omega) ?_
  exact r_Law_law_1055 hl Z hB hK hQ hk23 hf
set_option maxHeartbeats 4000000 in
set_option maxRecDepth 100000 in
theorem r_Law_law_891 {l : Launch} (hl : l.stackTraces = false) {G : zq_G} {S0 T : zq_S} {v : Int32} {X : zq_X} {b L : Nat} {xs : Nat → Int32} (Z : Z_Law_law l G S0 T v X) (hB : zl_ok (Y_Law_law l G S0 T v) X b L xs) {K Q : Nat} (hK : K + 8 ≤ 601024) (hQ : Q + 1222 ≤ 7293034) {k23 : Option Nat → Option Nat → Option Nat → Int32 → zq_S → Option (zq_S × Int32)} (hk23 : ∀ (v1 : Option Nat) (v2 : Option Nat) (v3 : Option Nat) (v4 : Int32) (S : zq_S), k23 v1 v2 v3 v4 S = some (T, v) → zq_W (Y_Law_law l G S0 T v) X 23 [(0, .ref b), (1, va_rf v1), (2, va_rf v2), (3, va_rf v3), (4, .int v4)] [] S (K + 8) (Q + 1222)) {v1 : Option Nat} {v2 : Option Nat} {v3 : Option Nat} {v4 : Int32} {S : zq_S} (hf : f_Law_law_891 xs L k23 v1 v2 v3 v4 S = some (T, v)) : zq_W (Y_Law_law l G S0 T v) X 891 [(0, .ref b), (1, va_rf v1), (2, va_rf v2), (3, va_rf v3), (4, .int v4)] [] S (K + 1) (Q + 6) := by
  unfold f_Law_law_891 at hf
  refine zq_goto Z 1055 d_Law_law_891 (by decide) ?_
  refine zq_sub (lo' := [(0, .ref b), (1, va_rf v1), (2, va_rf v2), (3, va_rf v3), (4, .int v4)]) [0, 1, 2, 3, 4] rfl ?_
  refine zq_wid (kc' := (K + 8)) (ks' := (Q + 1222)) (by show K + 1 ≤ (K + 8); omega) (by show Q + 6 ≤ (Q + 1222); omega) ?_
  exact r_Law_law_1055 hl Z hB hK hQ hk23 hf
set_option maxHeartbeats 4000000 in
set_option maxRecDepth 100000 in
theorem r_Law_law_786 {l : Launch} (hl : l.stackTraces = false) {G : zq_G} {S0 T : zq_S} {v : Int32} {X : zq_X} {b L : Nat} {xs : Nat → Int32} (Z : Z_Law_law l G S0 T v X) (hB : zl_ok (Y_Law_law l G S0 T v) X b L xs) {K Q : Nat} (hK : K + 8 ≤ 601024) (hQ : Q + 1222 ≤ 7293034) {k23 : Option Nat → Option Nat → Option Nat → Int32 → zq_S → Option (zq_S × Int32)} (hk23 : ∀ (v1 : Option Nat) (v2 : Option Nat) (v3 : Option Nat) (v4 : Int32) (S : zq_S), k23 v1 v2 v3 v4 S = some (T, v) → zq_W (Y_Law_law l G S0 T v) X 23 [(0, .ref b), (1, va_rf v1), (2, va_rf v2), (3, va_rf v3), (4, .int v4)] [] S (K + 8) (Q + 1222)) {v1 : Option Nat} {v2 : Option Nat} {v3 : Option Nat} {v4 : Int32} {S : zq_S} (hf : f_Law_law_786 xs L k23 v1 v2 v3 v4 S = some (T, v)) : zq_W (Y_Law_law l G S0 T v) X 786 [(0, .ref b), (1, va_rf v1), (2, va_rf v2), (3, va_rf v3), (4, .int v4)] [] S (K + 1) (Q + 6) := by
  unfold f_Law_law_786 at hf
  refine zq_goto Z 1055 d_Law_law_786 (by decide) ?_
  refine zq_sub (lo' := [(0, .ref b), (1, va_rf v1), (2, va_rf v2), (3, va_rf v3), (4, .int v4)]) [0, 1, 2, 3, 4] rfl ?_
  refine zq_wid (kc' := (K + 8)) (ks' := (Q + 1222)) (by show K + 1 ≤ (K + 8); omega) (by show Q + 6 ≤ (Q + 1222); omega) ?_
  exact r_Law_law_1055 hl Z hB hK hQ hk23 hf
set_option maxHeartbeats 4000000 in
set_option maxRecDepth 100000 in
theorem r_Law_law_742 {l : Launch} (hl : l.stackTraces = false) {G : zq_G} {S0 T : zq_S} {v : Int32} {X : zq_X} {b L : Nat} {xs : Nat → Int32} (Z : Z_Law_law l G S0 T v X) (hB : zl_ok (Y_Law_law l G S0 T v) X b L xs) {K Q : Nat} (hK : K + 8 ≤ 601024) (hQ : Q + 1222 ≤ 7293034) {k23 : Option Nat → Option Nat → Option Nat → Int32 → zq_S → Option (zq_S × Int32)} (hk23 : ∀ (v1 : Option Nat) (v2 : Option Nat) (v3 : Option Nat) (v4 : Int32) (S : zq_S), k23 v1 v2 v3 v4 S = some (T, v) → zq_W (Y_Law_law l G S0 T v) X 23 [(0, .ref b), (1, va_rf v1), (2, va_rf v2), (3, va_rf v3), (4, .int v4)] [] S (K + 8) (Q + 1222)) {v1 : Option Nat} {v2 : Option Nat} {v3 : Option Nat} {v4 : Int32} {S : zq_S} (hf : f_Law_law_742 xs L k23 v1 v2 v3 v4 S = some (T, v)) : zq_W (Y_Law_law l G S0 T v) X 742 [(0, .ref b), (1, va_rf v1), (2, va_rf v2), (3, va_rf v3), (4, .int v4)] [] S (K + 1) (Q + 6) := by
  unfold f_Law_law_742 at hf
  refine zq_goto Z 1055 d_Law_law_742 (by decide) ?_
  refine zq_sub (lo' := [(0, .ref b), (1, va_rf v1), (2, va_rf v2), (3, va_rf v3), (4, .int v4)]) [0, 1, 2, 3, 4] rfl ?_
  refine zq_wid (kc' := (K + 8)) (ks' := (Q + 1222)) (by show K + 1 ≤ (K + 8); omega) (by show Q + 6 ≤ (Q + 1222); omega) ?_
  exact r_Law_law_1055 hl Z hB hK hQ hk23 hf
set_option maxHeartbeats 4000000 in
set_option maxRecDepth 100000 in
theorem r_Law_law_698 {l : Launch} (hl : l.stackTraces = false) {G : zq_G} {S0 T : zq_S} {v : Int32} {X : zq_X} {b L : Nat} {xs : Nat → Int32} (Z : Z_Law_law l G S0 T v X) (hB : zl_ok (Y_Law_law l G S0 T v) X b L xs) {K Q : Nat} (hK : K + 8 ≤ 601024) (hQ : Q + 1222 ≤ 7293034) {k23 : Option Nat → Option Nat → Option Nat → Int32 → zq_S → Option (zq_S × Int32)} (hk23 : ∀ (v1 : Option Nat) (v2 : Option Nat) (v3 : Option Nat) (v4 : Int32) (S : zq_S), k23 v1 v2 v3 v4 S = some (T, v) → zq_W (Y_Law_law l G S0 T v) X 23 [(0, .ref b), (1, va_rf v1), (2, va_rf v2), (3, va_rf v3), (4, .int v4)] [] S (K + 8) (Q + 1222)) {v1 : Option Nat} {v2 : Option Nat} {v3 : Option Nat} {v4 : Int32} {S : zq_S} (hf : f_Law_law_698 xs L k23 v1 v2 v3 v4 S = some (T, v)) : zq_W (Y_Law_law l G S0 T v) X 698 [(0, .ref b), (1, va_rf v1), (2, va_rf v2), (3, va_rf v3), (4, .int v4)] [] S (K + 3) (Q + 605) := by
  unfold f_Law_law_698 at hf
  refine zq_goto Z 1055 d_Law_law_698 (by decide) ?_
  refine zq_sub (lo' := [(0, .ref b), (1, va_rf v1), (2, va_rf v2), (3, va_rf v3), (4, .int v4)]) [0, 1, 2, 3, 4] rfl ?_
  refine zq_wid (kc' := (K + 8)) (ks' := (Q + 1222)) (by show K + 3 ≤ (K + 8); omega) (by show Q + 605 ≤ (Q + 1222); omega) ?_
  exact r_Law_law_1055 hl Z hB hK hQ hk23 hf
set_option maxHeartbeats 4000000 in
set_option maxRecDepth 100000 in
theorem r_Law_law_630 {l : Launch} (hl : l.stackTraces = false) {G : zq_G} {S0 T : zq_S} {v : Int32} {X : zq_X} {b L : Nat} {xs : Nat → Int32} (Z : Z_Law_law l G S0 T v X) (hB : zl_ok (Y_Law_law l G S0 T v) X b L xs) {K Q : Nat} (hK : K + 8 ≤ 601024) (hQ : Q + 1222 ≤ 7293034) {k23 : Option Nat → Option Nat → Option Nat → Int32 → zq_S → Option (zq_S × Int32)} (hk23 : ∀ (v1 : Option Nat) (v2 : Option Nat) (v3 : Option Nat) (v4 : Int32) (S : zq_S), k23 v1 v2 v3 v4 S = some (T, v) → zq_W (Y_Law_law l G S0 T v) X 23 [(0, .ref b), (1, va_rf v1), (2, va_rf v2), (3, va_rf v3), (4, .int v4)] [] S (K + 8) (Q + 1222)) {v1 : Option Nat} {v2 : Option Nat} {v3 : Option Nat} {v4 : Int32} {S : zq_S} (hf : f_Law_law_630 xs L k23 v1 v2 v3 v4 S = some (T, v)) : zq_W (Y_Law_law l G S0 T v) X 630 [(0, .ref b), (1, va_rf v1), (2, va_rf v2), (3, va_rf v3), (4, .int v4)] [] S (K + 8) (Q + 1222) := by
  unfold f_Law_law_630 at hf
  refine zq_goto Z 1055 d_Law_law_630 (by decide) ?_
  refine zq_sub (lo' := [(0, .ref b), (1, va_rf v1), (2, va_rf v2), (3, va_rf v3), (4, .int v4)]) [0, 1, 2, 3, 4] rfl ?_
  refine zq_wid (kc' := (K + 8)) (ks' := (Q + 1222)) (by show K + 8 ≤ (K + 8); omega) (by show Q + 1222 ≤ (Q + 1222); omega) ?_
  exact r_Law_law_1055 hl Z hB hK hQ hk23 hf
set_option maxHeartbeats 4000000 in
set_option maxRecDepth 100000 in
theorem r_Law_law_550 {l : Launch} (hl : l.stackTraces = false) {G : zq_G} {S0 T : zq_S} {v : Int32} {X : zq_X} {b L : Nat} {xs : Nat → Int32} (Z : Z_Law_law l G S0 T v X) (hB : zl_ok (Y_Law_law l G S0 T v) X b L xs) {K Q : Nat} (hK : K + 8 ≤ 601024) (hQ : Q + 1222 ≤ 7293034) {k23 : Option Nat → Option Nat → Option Nat → Int32 → zq_S → Option (zq_S × Int32)} (hk23 : ∀ (v1 : Option Nat) (v2 : Option Nat) (v3 : Option Nat) (v4 : Int32) (S : zq_S), k23 v1 v2 v3 v4 S = some (T, v) → zq_W (Y_Law_law l G S0 T v) X 23 [(0, .ref b), (1, va_rf v1), (2, va_rf v2), (3, va_rf v3), (4, .int v4)] [] S (K + 8) (Q + 1222)) {v1 : Option Nat} {v2 : Option Nat} {v3 : Option Nat} {v4 : Int32} {S : zq_S} (hf : f_Law_law_550 xs L k23 v1 v2 v3 v4 S = some (T, v)) : zq_W (Y_Law_law l G S0 T v) X 550 [(0, .ref b), (1, va_rf v1), (2, va_rf v2), (3, va_rf v3), (4, .int v4)] [] S (K + 8) (Q + 1222) := by
  unfold f_Law_law_550 at hf
  refine zq_goto Z 1055 d_Law_law_550 (by decide) ?_
  refine zq_sub (lo' := [(0, .ref b), (1, va_rf v1), (2, va_rf v2), (3, va_rf v3), (4, .int v4)]) [0, 1, 2, 3, 4] rfl ?_
  refine zq_wid (kc' := (K + 8)) (ks' := (Q + 1222)) (by show K + 8 ≤ (K + 8); omega) (by show Q + 1222 ≤ (Q + 1222); omega) ?_
  exact r_Law_law_1055 hl Z hB hK hQ hk23 hf
set_option maxHeartbeats 4000000 in
set_option maxRecDepth 100000 in
theorem r_Law_law_470 {l : Launch} (hl : l.stackTraces = false) {G : zq_G} {S0 T : zq_S} {v : Int32} {X : zq_X} {b L : Nat} {xs : Nat → Int32} (Z : Z_Law_law l G S0 T v X) (hB : zl_ok (Y_Law_law l G S0 T v) X b L xs) {K Q : Nat} (hK : K + 8 ≤ 601024) (hQ : Q + 1222 ≤ 7293034) {k23 : Option Nat → Option Nat → Option Nat → Int32 → zq_S → Option (zq_S × Int32)} (hk23 : ∀ (v1 : Option Nat) (v2 : Option Nat) (v3 : Option Nat) (v4 : Int32) (S : zq_S), k23 v1 v2 v3 v4 S = some (T, v) → zq_W (Y_Law_law l G S0 T v) X 23 [(0, .ref b), (1, va_rf v1), (2, va_rf v2), (3, va_rf v3), (4, .int v4)] [] S (K + 8) (Q + 1222)) {v1 : Option Nat} {v2 : Option Nat} {v3 : Option Nat} {v4 : Int32} {S : zq_S} (hf : f_Law_law_470 xs L k23 v1 v2 v3 v4 S = some (T, v)) : zq_W (Y_Law_law l G S0 T v) X 470 [(0, .ref b), (1, va_rf v1), (2, va_rf v2), (3, va_rf v3), (4, .int v4)] [] S (K + 8) (Q + 1222) := by
  unfold f_Law_law_470 at hf
  refine zq_goto Z 1055 d_Law_law_470 (by decide) ?_
  refine zq_sub (lo' := [(0, .ref b), (1, va_rf v1), (2, va_rf v2), (3, va_rf v3), (4, .int v4)]) [0, 1, 2, 3, 4] rfl ?_
  refine zq_wid (kc' := (K + 8)) (ks' := (Q + 1222)) (by show K + 8 ≤ (K + 8); omega) (by show Q + 1222 ≤ (Q + 1222); omega) ?_
  exact r_Law_law_1055 hl Z hB hK hQ hk23 hf
set_option maxHeartbeats 4000000 in
set_option maxRecDepth 100000 in
theorem r_Law_law_390 {l : Launch} (hl : l.stackTraces = false) {G : zq_G} {S0 T : zq_S} {v : Int32} {X : zq_X} {b L : Nat} {xs : Nat → Int32} (Z : Z_Law_law l G S0 T v X) (hB : zl_ok (Y_Law_law l G S0 T v) X b L xs) {K Q : Nat} (hK : K + 8 ≤ 601024) (hQ : Q + 1222 ≤ 7293034) {k23 : Option Nat → Option Nat → Option Nat → Int32 → zq_S → Option (zq_S × Int32)} (hk23 : ∀ (v1 : Option Nat) (v2 : Option Nat) (v3 : Option Nat) (v4 : Int32) (S : zq_S), k23 v1 v2 v3 v4 S = some (T, v) → zq_W (Y_Law_law l G S0 T v) X 23 [(0, .ref b), (1, va_rf v1), (2, va_rf v2), (3, va_rf v3), (4, .int v4)] [] S (K + 8) (Q + 1222)) {v1 : Option Nat} {v2 : Option Nat} {v3 : Option Nat} {v4 : Int32} {S : zq_S} (hf : f_Law_law_390 xs L k23 v1 v2 v3 v4 S = some (T, v)) : zq_W (Y_Law_law l G S0 T v) X 390 [(0, .ref b), (1, va_rf v1), (2, va_rf v2), (3, va_rf v3), (4, .int v4)] [] S (K + 7) (Q + 1216) := by
  unfold f_Law_law_390 at hf
  refine zq_goto Z 1055 d_Law_law_390 (by decide) ?_
  refine zq_sub (lo' := [(0, .ref b), (1, va_rf v1), (2, va_rf v2), (3, va_rf v3), (4, .int v4)]) [0, 1, 2, 3, 4] rfl ?_
  refine zq_wid (kc' := (K + 8)) (ks' := (Q + 1222)) (by show K + 7 ≤ (K + 8); omega) (by show Q + 1216 ≤ (Q + 1222); omega) ?_
  exact r_Law_law_1055 hl Z hB hK hQ hk23 hf
set_option maxHeartbeats 4000000 in
set_option maxRecDepth 100000 in
theorem r_Law_law_322 {l : Launch} (hl : l.stackTraces = false) {G : zq_G} {S0 T : zq_S} {v : Int32} {X : zq_X} {b L : Nat} {xs : Nat → Int32} (Z : Z_Law_law l G S0 T v X) (hB : zl_ok (Y_Law_law l G S0 T v) X b L xs) {K Q : Nat} (hK : K + 8 ≤ 601024) (hQ : Q + 1222 ≤ 7293034) {k23 : Option Nat → Option Nat → Option Nat → Int32 → zq_S → Option (zq_S × Int32)} (hk23 : ∀ (v1 : Option Nat) (v2 : Option Nat) (v3 : Option Nat) (v4 : Int32) (S : zq_S), k23 v1 v2 v3 v4 S = some (T, v) → zq_W (Y_Law_law l G S0 T v) X 23 [(0, .ref b), (1, va_rf v1), (2, va_rf v2), (3, va_rf v3), (4, .int v4)] [] S (K + 8) (Q + 1222)) {v1 : Option Nat} {v2 : Option Nat} {v3 : Option Nat} {v4 : Int32} {S : zq_S} (hf : f_Law_law_322 xs L k23 v1 v2 v3 v4 S = some (T, v)) : zq_W (Y_Law_law l G S0 T v) X 322 [(0, .ref b), (1, va_rf v1), (2, va_rf v2), (3, va_rf v3), (4, .int v4)] [] S (K + 8) (Q + 1222) := by
  unfold f_Law_law_322 at hf
  refine zq_goto Z 1055 d_Law_law_322 (by decide) ?_
  refine zq_sub (lo' := [(0, .ref b), (1, va_rf v1), (2, va_rf v2), (3, va_rf v3), (4, .int v4)]) [0, 1, 2, 3, 4] rfl ?_
  refine zq_wid (kc' := (K + 8)) (ks' := (Q + 1222)) (by show K + 8 ≤ (K + 8); omega) (by show Q + 1222 ≤ (Q + 1222); omega) ?_
  exact r_Law_law_1055 hl Z hB hK hQ hk23 hf
set_option maxHeartbeats 4000000 in
set_option maxRecDepth 100000 in
theorem r_Law_law_205 {l : Launch} (hl : l.stackTraces = false) {G : zq_G} {S0 T : zq_S} {v : Int32} {X : zq_X} {b L : Nat} {xs : Nat → Int32} (Z : Z_Law_law l G S0 T v X) (hB : zl_ok (Y_Law_law l G S0 T v) X b L xs) {K Q : Nat} (hK : K + 8 ≤ 601024) (hQ : Q + 1222 ≤ 7293034) {k23 : Option Nat → Option Nat → Option Nat → Int32 → zq_S → Option (zq_S × Int32)} (hk23 : ∀ (v1 : Option Nat) (v2 : Option Nat) (v3 : Option Nat) (v4 : Int32) (S : zq_S), k23 v1 v2 v3 v4 S = some (T, v) → zq_W (Y_Law_law l G S0 T v) X 23 [(0, .ref b), (1, va_rf v1), (2, va_rf v2), (3, va_rf v3), (4, .int v4)] [] S (K + 8) (Q + 1222)) {v1 : Option Nat} {v2 : Option Nat} {v3 : Option Nat} {v4 : Int32} {s0 : Int32} {s1 : Option Nat} {s2 : Int32} {S : zq_S} (hf : f_Law_law_205 xs L k23 v1 v2 v3 v4 s0 s1 s2 S = some (T, v)) : zq_W (Y_Law_law l G S0 T v) X 205 [(0, .ref b), (1, va_rf v1), (2, va_rf v2), (3, va_rf v3), (4, .int v4)] [.int s2, va_rf s1, .int s0] S K Q := by
  unfold f_Law_law_205 at hf
  have hq := Option.bind_eq_some_iff.mp hf
  clear hf
  obtain ⟨a1, h2, hf⟩ := hq
  subst h2
  have hq := zs_C hf
  clear hf
  obtain ⟨h6, hf⟩ := hq
  obtain ⟨fs7, e8⟩ := zs_isS h6
  have hq := zs_bS hf
  clear hf
  obtain ⟨S4, x5, h3, hf⟩ := hq
  refine zq_contR (zq_stepV Z zq_cf1 (c_Mo_track hl h3) 4 rfl e8 d_Law_law_205 m_447 m_449 m_450 m_448 m_286 p_Mo_track ⟨(Nat.le_of_ble_eq_true rfl), (Nat.le_of_ble_eq_true rfl), (by show K ≤ 601024; omega), (by show Q ≤ 7293034; omega)⟩ rfl (Nat.le_of_ble_eq_true rfl)) Z.p ?_
  refine zq_icmp_eq Z 1055 d_Law_law_208 (by decide) (fun q => ?_) (fun q => ?_)
  · replace hf := zs_T q hf
    refine zq_sub (lo' := [(0, .ref b), (1, va_rf v1), (2, va_rf v2), (3, va_rf v3), (4, .int v4)]) [0, 1, 2, 3, 4] rfl ?_
    refine zq_wid (kc' := (K + 8)) (ks' := (Q + 1222)) (by show K ≤ (K + 8); omega) (by show Q ≤ (Q + 1222); omega) ?_
    exact r_Law_law_1055 hl Z hB hK hQ hk23 hf
  · replace hf := zs_N q hf
    refine zq_iconst Z (0 : Int32) d_Law_law_211 (by decide) ?_
    have hq := zs_C hf
    clear hf
    obtain ⟨h9, hf⟩ := hq
    exact zq_zret Z d_Law_law_212 h9 (zs_1 hf) (zs_2 (fun z => (.inl (some (.int z)) : zq_R)) hf) ⟨(by show K ≤ 601024; omega), (by show Q ≤ 7293034; omega)⟩
set_option maxHeartbeats 4000000 in
set_option maxRecDepth 100000 in
theorem r_Law_law_187 {l : Launch} (hl : l.stackTraces = false) {G : zq_G} {S0 T : zq_S} {v : Int32} {X : zq_X} {b L : Nat} {xs : Nat → Int32} (Z : Z_Law_law l G S0 T v X) (hB : zl_ok (Y_Law_law l G S0 T v) X b L xs) {K Q : Nat} (hK : K + 8 ≤ 601024) (hQ : Q + 1222 ≤ 7293034) {k23 : Option Nat → Option Nat → Option Nat → Int32 → zq_S → Option (zq_S × Int32)} (hk23 : ∀ (v1 : Option Nat) (v2 : Option Nat) (v3 : Option Nat) (v4 : Int32) (S : zq_S), k23 v1 v2 v3 v4 S = some (T, v) → zq_W (Y_Law_law l G S0 T v) X 23 [(0, .ref b), (1, va_rf v1), (2, va_rf v2), (3, va_rf v3), (4, .int v4)] [] S (K + 8) (Q + 1222)) {v1 : Option Nat} {v2 : Option Nat} {v3 : Option Nat} {v4 : Int32} {s0 : Option Nat} {s1 : Int32} {S : zq_S} (hf : f_Law_law_187 xs L k23 v1 v2 v3 v4 s0 s1 S = some (T, v)) : zq_W (Y_Law_law l G S0 T v) X 187 [(0, .ref b), (1, va_rf v1), (2, va_rf v2), (3, va_rf v3), (4, .int v4)] [.int s1, va_rf s0] S K Q := by
  unfold f_Law_law_187 at hf
  have hq := Option.bind_eq_some_iff.mp hf
  clear hf
  obtain ⟨a1, h2, hf⟩ := hq
  subst h2
  have hq := zs_C hf
  clear hf
  obtain ⟨h6, hf⟩ := hq
  obtain ⟨fs7, e8⟩ := zs_isS h6
  have hq := zs_bS hf
  clear hf
  obtain ⟨S4, x5, h3, hf⟩ := hq
  refine zq_contR (zq_stepV Z zq_cf1 (c_CT_track hl h3) 3 rfl e8 d_Law_law_187 m_451 m_453 m_454 m_452 m_108 p_CT_track ⟨(Nat.le_of_ble_eq_true rfl), (Nat.le_of_ble_eq_true rfl), (by show K ≤ 601024; omega), (by show Q ≤ 7293034; omega)⟩ rfl (Nat.le_of_ble_eq_true rfl)) Z.p ?_
  refine zq_aload_nQ Z d_Law_law_190 2 rfl ?_
  refine zq_aload_n Z d_Law_law_191 0 rfl ?_
  refine zq_iload Z d_Law_law_192 4 rfl ?_
  refine zq_iconst Z (1 : Int32) d_Law_law_194 (by decide) ?_
  refine zq_iadd Z d_Law_law_195 ?_
  have hq := Option.bind_eq_some_iff.mp hf
  clear hf
  obtain ⟨x10, h9, hf⟩ := hq
  refine zl_sldR Z hB d_Law_law_196 h9 ?_
  refine zq_if_eq Z 204 d_Law_law_197 (by decide) (fun q => ?_) (fun q => ?_)
  · replace hf := zs_T q hf
    refine zq_iconst Z (0 : Int32) d_Law_law_204 (by decide) ?_
    refine zq_sub (lo' := [(0, .ref b), (1, va_rf v1), (2, va_rf v2), (3, va_rf v3), (4, .int v4)]) [0, 1, 2, 3, 4] rfl ?_
    refine zq_wid (kc' := K) (ks' := Q) (by show K ≤ K; omega) (by show Q ≤ Q; omega) ?_
    exact r_Law_law_205 hl Z hB hK hQ hk23 hf
  · replace hf := zs_N q hf
    refine zq_iconst Z (1 : Int32) d_Law_law_200 (by decide) ?_
    refine zq_goto Z 205 d_Law_law_201 (by decide) ?_
    refine zq_sub (lo' := [(0, .ref b), (1, va_rf v1), (2, va_rf v2), (3, va_rf v3), (4, .int v4)]) [0, 1, 2, 3, 4] rfl ?_
    refine zq_wid (kc' := K) (ks' := Q) (by show K ≤ K; omega) (by show Q ≤ Q; omega) ?_
    exact r_Law_law_205 hl Z hB hK hQ hk23 hf
set_option maxHeartbeats 4000000 in
set_option maxRecDepth 100000 in
theorem r_Law_law_169 {l : Launch} (hl : l.stackTraces = false) {G : zq_G} {S0 T : zq_S} {v : Int32} {X : zq_X} {b L : Nat} {xs : Nat → Int32} (Z : Z_Law_law l G S0 T v X) (hB : zl_ok (Y_Law_law l G S0 T v) X b L xs) {K Q : Nat} (hK : K + 8 ≤ 601024) (hQ : Q + 1222 ≤ 7293034) {k23 : Option Nat → Option Nat → Option Nat → Int32 → zq_S → Option (zq_S × Int32)} (hk23 : ∀ (v1 : Option Nat) (v2 : Option Nat) (v3 : Option Nat) (v4 : Int32) (S : zq_S), k23 v1 v2 v3 v4 S = some (T, v) → zq_W (Y_Law_law l G S0 T v) X 23 [(0, .ref b), (1, va_rf v1), (2, va_rf v2), (3, va_rf v3), (4, .int v4)] [] S (K + 8) (Q + 1222)) {v1 : Option Nat} {v2 : Option Nat} {v3 : Option Nat} {v4 : Int32} {S : zq_S} (hf : f_Law_law_169 xs L k23 v1 v2 v3 v4 S = some (T, v)) : zq_W (Y_Law_law l G S0 T v) X 169 [(0, .ref b), (1, va_rf v1), (2, va_rf v2), (3, va_rf v3), (4, .int v4)] [] S (K + 1) (Q + 6) := by
  unfold f_Law_law_169 at hf
  refine zq_goto Z 1055 d_Law_law_169 (by decide) ?_
  refine zq_sub (lo' := [(0, .ref b), (1, va_rf v1), (2, va_rf v2), (3, va_rf v3), (4, .int v4)]) [0, 1, 2, 3, 4] rfl ?_
  refine zq_wid (kc' := (K + 8)) (ks' := (Q + 1222)) (by show K + 1 ≤ (K + 8); omega) (by show Q + 6 ≤ (Q + 1222); omega) ?_
  exact r_Law_law_1055 hl Z hB hK hQ hk23 hf
set_option maxHeartbeats 4000000 in
set_option maxRecDepth 100000 in
theorem r_Law_law_23 {l : Launch} (hl : l.stackTraces = false) {G : zq_G} {S0 T : zq_S} {v : Int32} {X : zq_X} {b L : Nat} {xs : Nat → Int32} (Z : Z_Law_law l G S0 T v X) (hB : zl_ok (Y_Law_law l G S0 T v) X b L xs) {K Q : Nat} (hK : K + 8 ≤ 601024) (hQ : Q + 1222 ≤ 7293034) {k23 : Option Nat → Option Nat → Option Nat → Int32 → zq_S → Option (zq_S × Int32)} (hk23 : ∀ (v1 : Option Nat) (v2 : Option Nat) (v3 : Option Nat) (v4 : Int32) (S : zq_S), k23 v1 v2 v3 v4 S = some (T, v) → zq_W (Y_Law_law l G S0 T v) X 23 [(0, .ref b), (1, va_rf v1), (2, va_rf v2), (3, va_rf v3), (4, .int v4)] [] S (K + 8) (Q + 1222)) {v1 : Option Nat} {v2 : Option Nat} {v3 : Option Nat} {v4 : Int32} {S : zq_S} (hf : f_Law_law_23 xs L k23 v1 v2 v3 v4 S = some (T, v)) : zq_W (Y_Law_law l G S0 T v) X 23 [(0, .ref b), (1, va_rf v1), (2, va_rf v2), (3, va_rf v3), (4, .int v4)] [] S K Q := by
  unfold f_Law_law_23 at hf
  refine zq_iload Z d_Law_law_23 4 rfl ?_
  refine zq_aload_n Z d_Law_law_25 0 rfl ?_
  refine zl_slen Z hB d_Law_law_26 ?_
  refine zq_iconst Z (5 : Int32) d_Law_law_27 (by decide) ?_
  refine zq_isub Z d_Law_law_28 ?_
  refine zq_icmp_gt Z 1061 d_Law_law_29 (by decide) (fun q => ?_) (fun q => ?_)
  · replace hf := zs_T q hf
    refine zq_iconst Z (1 : Int32) d_Law_law_1061 (by decide) ?_
    have hq := zs_C hf
    clear hf
    obtain ⟨h1, hf⟩ := hq
    exact zq_zret Z d_Law_law_1062 h1 (zs_1 hf) (zs_2 (fun z => (.inl (some (.int z)) : zq_R)) hf) ⟨(by show K ≤ 601024; omega), (by show Q ≤ 7293034; omega)⟩
  · replace hf := zs_N q hf
    refine zq_aload_n Z d_Law_law_32 0 rfl ?_
    refine zq_iload Z d_Law_law_33 4 rfl ?_
    have hq := Option.bind_eq_some_iff.mp hf
    clear hf
    obtain ⟨x3, h2, hf⟩ := hq
    refine zl_sldR Z hB d_Law_law_35 h2 ?_
    refine zq_bipush Z (15 : Int32) d_Law_law_36 (by decide) ?_
    refine zq_iand Z d_Law_law_38 ?_
    by_cases c0 : (x3 &&& (15 : Int32)) = 0
    · replace hf := zs_T c0 hf
      refine zq_tabIn (off := 77) Z 116 d_Law_law_39 (by rw [c0]; decide) (by rw [c0]; decide) (by rw [c0]; rfl) (by decide) ?_
      refine zq_aload_nQ Z d_Law_law_116 1 rfl ?_
      refine zq_aload_n Z d_Law_law_117 0 rfl ?_
      refine zq_iload Z d_Law_law_118 4 rfl ?_
      refine zq_iconst Z (1 : Int32) d_Law_law_120 (by decide) ?_
      refine zq_iadd Z d_Law_law_121 ?_
      have hq := Option.bind_eq_some_iff.mp hf
      clear hf
      obtain ⟨x5, h4, hf⟩ := hq
      refine zl_sldR Z hB d_Law_law_122 h4 ?_
      refine zq_aload_nQ Z d_Law_law_123 3 rfl ?_
      have hq := zs_bS hf
      clear hf
      obtain ⟨S7, x8, h6, hf⟩ := hq
      refine zq_contR (zq_stepS Z zq_cf2 (c_Law_author hl h6) d_Law_law_124 m_455 m_456 m_457 m_458 p_Law_author ⟨(Nat.le_of_ble_eq_true rfl), (Nat.le_of_ble_eq_true rfl), (by show K + 1 ≤ 601024; omega), (by show Q + 6 ≤ 7293034; omega)⟩ rfl (Nat.le_of_ble_eq_true rfl)) Z.p ?_
      refine zq_istore Z [(5, .int x8), (0, .ref b), (1, va_rf v1), (2, va_rf v2), (3, va_rf v3), (4, .int v4)] d_Law_law_127 (by decide) rfl ?_
      refine zq_aload_nQ Z d_Law_law_129 3 rfl ?_
      refine zq_aload_n Z d_Law_law_130 1 rfl ?_
      refine zq_iload Z d_Law_law_131 5 rfl ?_
      refine zq_iconst Z (1 : Int32) d_Law_law_133 (by decide) ?_
      refine zq_iadd Z d_Law_law_134 ?_
      have hq := Option.bind_eq_some_iff.mp hf
      clear hf
      obtain ⟨x10, h9, hf⟩ := hq
      refine zl_sldR Z hB d_Law_law_135 h9 ?_
      have hq := Option.bind_eq_some_iff.mp hf
      clear hf
      obtain ⟨a11, h12, hf⟩ := hq
      subst h12
      have hq := zs_C hf
      clear hf
      obtain ⟨h16, hf⟩ := hq
      obtain ⟨fs17, e18⟩ := zs_isS h16
      have hq := zs_bS hf
      clear hf
      obtain ⟨S14, x15, h13, hf⟩ := hq
      refine zq_contR (zq_stepV Z zq_cf1 (c_Mo_author hl h13) 4 rfl e18 d_Law_law_136 m_459 m_461 m_462 m_460 m_286 p_Mo_author ⟨(Nat.le_of_ble_eq_true rfl), (Nat.le_of_ble_eq_true rfl), (by show K + 1 ≤ 601024; omega), (by show Q + 6 ≤ 7293034; omega)⟩ rfl (Nat.le_of_ble_eq_true rfl)) Z.p ?_
      refine zq_istore Z [(6, .int x15), (5, .int x8), (0, .ref b), (1, va_rf v1), (2, .ref a11), (3, va_rf v3), (4, .int v4)] d_Law_law_139 (by decide) rfl ?_
      refine zq_aload_n Z d_Law_law_141 4 rfl ?_
      have hq := zs_C hf
      clear hf
      obtain ⟨h22, hf⟩ := hq
      obtain ⟨fs23, e24⟩ := zs_isS h22
      have hq := zs_bS hf
      clear hf
      obtain ⟨S20, x21, h19, hf⟩ := hq
      refine zq_contR (zq_stepV Z zq_cf1 (c_Mo_thrown hl h19) 4 rfl e24 d_Law_law_142 m_463 m_465 m_466 m_464 m_286 p_Mo_thrown ⟨(Nat.le_of_ble_eq_true rfl), (Nat.le_of_ble_eq_true rfl), (by show K + 1 ≤ 601024; omega), (by show Q + 6 ≤ 7293034; omega)⟩ rfl (Nat.le_of_ble_eq_true rfl)) Z.p ?_
      refine zq_iload Z d_Law_law_145 1 rfl ?_
      refine zq_icmp_eq Z 152 d_Law_law_147 (by decide) (fun q => ?_) (fun q => ?_)
      · replace hf := zs_T q hf
        refine zq_iload Z d_Law_law_152 1 rfl ?_
        refine zq_if_ne Z 169 d_Law_law_154 (by decide) (fun q => ?_) (fun q => ?_)
        · replace hf := zs_N q hf
          refine zq_sub (lo' := [(0, .ref b), (1, va_rf v1), (2, va_rf (some a11)), (3, va_rf v3), (4, .int v4)]) [2, 3, 4, 5, 6] rfl ?_
          refine zq_wid (kc' := (K + 1)) (ks' := (Q + 6)) (by show K + 1 ≤ (K + 1); omega) (by show Q + 6 ≤ (Q + 6); omega) ?_
          exact r_Law_law_169 hl Z hB hK hQ hk23 hf
        · replace hf := zs_T q hf
          refine zq_aload_nQ Z d_Law_law_157 5 rfl ?_
          refine zq_iconst Z (0 : Int32) d_Law_law_158 (by decide) ?_
          have hq := Option.bind_eq_some_iff.mp hf
          clear hf
          obtain ⟨a25, h26, hf⟩ := hq
          subst h26
          have hq := Option.bind_eq_some_iff.mp hf
          clear hf
          obtain ⟨x27, h28, hf⟩ := hq
          refine zr_laload Z 0 (fun _ => rfl) d_Law_law_159 h28 ?_
          refine zq_iload Z d_Law_law_160 0 rfl ?_
          refine zq_i2l Z d_Law_law_162 ?_
          refine zq_lcmp Z d_Law_law_163 ?_
          refine zq_if_eq Z 169 d_Law_law_164 (by decide) (fun q => ?_) (fun q => ?_)
          · replace hf := zs_T q hf
            refine zq_sub (lo' := [(0, .ref b), (1, va_rf v1), (2, va_rf (some a11)), (3, va_rf (some a25)), (4, .int v4)]) [2, 3, 4, 5, 6] rfl ?_
            refine zq_wid (kc' := (K + 1)) (ks' := (Q + 6)) (by show K + 1 ≤ (K + 1); omega) (by show Q + 6 ≤ (Q + 6); omega) ?_
            exact r_Law_law_169 hl Z hB hK hQ hk23 hf
          · replace hf := zs_N q hf
            refine zq_iconst Z (0 : Int32) d_Law_law_167 (by decide) ?_
            have hq := zs_C hf
            clear hf
            obtain ⟨h29, hf⟩ := hq
            exact zq_zret Z d_Law_law_168 h29 (zs_1 hf) (zs_2 (fun z => (.inl (some (.int z)) : zq_R)) hf) ⟨(by show K + 1 ≤ 601024; omega), (by show Q + 6 ≤ 7293034; omega)⟩
      · replace hf := zs_N q hf
        refine zq_iconst Z (0 : Int32) d_Law_law_150 (by decide) ?_
        have hq := zs_C hf
        clear hf
        obtain ⟨h30, hf⟩ := hq
        exact zq_zret Z d_Law_law_151 h30 (zs_1 hf) (zs_2 (fun z => (.inl (some (.int z)) : zq_R)) hf) ⟨(by show K + 1 ≤ 601024; omega), (by show Q + 6 ≤ 7293034; omega)⟩
    · replace hf := zs_N c0 hf
      by_cases c1 : (x3 &&& (15 : Int32)) = 1
      · replace hf := zs_T c1 hf
        refine zq_tabIn (off := 133) Z 172 d_Law_law_39 (by rw [c1]; decide) (by rw [c1]; decide) (by rw [c1]; rfl) (by decide) ?_
        refine zq_aload_nQ Z d_Law_law_172 1 rfl ?_
        refine zq_aload_n Z d_Law_law_173 0 rfl ?_
        refine zq_iload Z d_Law_law_174 4 rfl ?_
        refine zq_iconst Z (1 : Int32) d_Law_law_176 (by decide) ?_
        refine zq_iadd Z d_Law_law_177 ?_
        have hq := Option.bind_eq_some_iff.mp hf
        clear hf
        obtain ⟨x32, h31, hf⟩ := hq
        refine zl_sldR Z hB d_Law_law_178 h31 ?_
        refine zq_if_eq Z 186 d_Law_law_179 (by decide) (fun q => ?_) (fun q => ?_)
        · replace hf := zs_T q hf
          refine zq_iconst Z (0 : Int32) d_Law_law_186 (by decide) ?_
          refine zq_sub (lo' := [(0, .ref b), (1, va_rf v1), (2, va_rf v2), (3, va_rf v3), (4, .int v4)]) [0, 1, 2, 3, 4] rfl ?_
          refine zq_wid (kc' := K) (ks' := Q) (by show K ≤ K; omega) (by show Q ≤ Q; omega) ?_
          exact r_Law_law_187 hl Z hB hK hQ hk23 hf
        · replace hf := zs_N q hf
          refine zq_iconst Z (1 : Int32) d_Law_law_182 (by decide) ?_
          refine zq_goto Z 187 d_Law_law_183 (by decide) ?_
          refine zq_sub (lo' := [(0, .ref b), (1, va_rf v1), (2, va_rf v2), (3, va_rf v3), (4, .int v4)]) [0, 1, 2, 3, 4] rfl ?_
          refine zq_wid (kc' := K) (ks' := Q) (by show K ≤ K; omega) (by show Q ≤ Q; omega) ?_
          exact r_Law_law_187 hl Z hB hK hQ hk23 hf
      · replace hf := zs_N c1 hf
        by_cases c2 : (x3 &&& (15 : Int32)) = 2
        · replace hf := zs_T c2 hf
          refine zq_tabIn (off := 174) Z 213 d_Law_law_39 (by rw [c2]; decide) (by rw [c2]; decide) (by rw [c2]; rfl) (by decide) ?_
          refine zq_aload_nQ Z d_Law_law_213 1 rfl ?_
          refine zq_aload_n Z d_Law_law_214 0 rfl ?_
          refine zq_iload Z d_Law_law_215 4 rfl ?_
          refine zq_iconst Z (1 : Int32) d_Law_law_217 (by decide) ?_
          refine zq_iadd Z d_Law_law_218 ?_
          have hq := Option.bind_eq_some_iff.mp hf
          clear hf
          obtain ⟨x34, h33, hf⟩ := hq
          refine zl_sldR Z hB d_Law_law_219 h33 ?_
          refine zq_aload_n Z d_Law_law_220 0 rfl ?_
          refine zq_iload Z d_Law_law_221 4 rfl ?_
          refine zq_iconst Z (2 : Int32) d_Law_law_223 (by decide) ?_
          refine zq_iadd Z d_Law_law_224 ?_
          have hq := Option.bind_eq_some_iff.mp hf
          clear hf
          obtain ⟨x36, h35, hf⟩ := hq
          refine zl_sldR Z hB d_Law_law_225 h35 ?_
          refine zq_i2l Z d_Law_law_226 ?_
          refine zq_bipush Z (32 : Int32) d_Law_law_227 (by decide) ?_
          refine zq_lshl Z d_Law_law_229 ?_
          refine zq_aload_n Z d_Law_law_230 0 rfl ?_
          refine zq_iload Z d_Law_law_231 4 rfl ?_
          refine zq_iconst Z (3 : Int32) d_Law_law_233 (by decide) ?_
          refine zq_iadd Z d_Law_law_234 ?_
          have hq := Option.bind_eq_some_iff.mp hf
          clear hf
          obtain ⟨x38, h37, hf⟩ := hq
          refine zl_sldR Z hB d_Law_law_235 h37 ?_
          refine zq_i2l Z d_Law_law_236 ?_
          refine zq_ldc2 Z (4294967295 : Int64) d_Law_law_237 m_467 ?_
          refine zq_land Z d_Law_law_240 ?_
          refine zq_lor Z d_Law_law_241 ?_
          refine zq_aload_n Z d_Law_law_242 0 rfl ?_
          refine zq_iload Z d_Law_law_243 4 rfl ?_
          refine zq_iconst Z (4 : Int32) d_Law_law_245 (by decide) ?_
          refine zq_iadd Z d_Law_law_246 ?_
          have hq := Option.bind_eq_some_iff.mp hf
          clear hf
          obtain ⟨x40, h39, hf⟩ := hq
          refine zl_sldR Z hB d_Law_law_247 h39 ?_
          refine zq_aload_nQ Z d_Law_law_248 3 rfl ?_
          have hq := zs_bS hf
          clear hf
          obtain ⟨S42, x43, h41, hf⟩ := hq
          refine zq_contR (zq_stepS Z zq_cf2 (c_Law_insert hl h41) d_Law_law_249 m_468 m_469 m_470 m_458 p_Law_insert ⟨(Nat.le_of_ble_eq_true rfl), (Nat.le_of_ble_eq_true rfl), (by show K + 8 ≤ 601024; omega), (by show Q + 1222 ≤ 7293034; omega)⟩ rfl (Nat.le_of_ble_eq_true rfl)) Z.p ?_
          refine zq_istore Z [(5, .int x43), (0, .ref b), (1, va_rf v1), (2, va_rf v2), (3, va_rf v3), (4, .int v4)] d_Law_law_252 (by decide) rfl ?_
          refine zq_aload_nQ Z d_Law_law_254 3 rfl ?_
          refine zq_aload_n Z d_Law_law_255 1 rfl ?_
          refine zq_iload Z d_Law_law_256 5 rfl ?_
          refine zq_iconst Z (1 : Int32) d_Law_law_258 (by decide) ?_
          refine zq_iadd Z d_Law_law_259 ?_
          have hq := Option.bind_eq_some_iff.mp hf
          clear hf
          obtain ⟨x45, h44, hf⟩ := hq
          refine zl_sldR Z hB d_Law_law_260 h44 ?_
          refine zq_aload_n Z d_Law_law_261 1 rfl ?_
          refine zq_iload Z d_Law_law_262 5 rfl ?_
          refine zq_iconst Z (2 : Int32) d_Law_law_264 (by decide) ?_
          refine zq_iadd Z d_Law_law_265 ?_
          have hq := Option.bind_eq_some_iff.mp hf
          clear hf
          obtain ⟨x47, h46, hf⟩ := hq
          refine zl_sldR Z hB d_Law_law_266 h46 ?_
          refine zq_i2l Z d_Law_law_267 ?_
          refine zq_bipush Z (32 : Int32) d_Law_law_268 (by decide) ?_
          refine zq_lshl Z d_Law_law_270 ?_
          refine zq_aload_n Z d_Law_law_271 1 rfl ?_
          refine zq_iload Z d_Law_law_272 5 rfl ?_
          refine zq_iconst Z (3 : Int32) d_Law_law_274 (by decide) ?_
          refine zq_iadd Z d_Law_law_275 ?_
          have hq := Option.bind_eq_some_iff.mp hf
          clear hf
          obtain ⟨x49, h48, hf⟩ := hq
          refine zl_sldR Z hB d_Law_law_276 h48 ?_
          refine zq_i2l Z d_Law_law_277 ?_
          refine zq_ldc2 Z (4294967295 : Int64) d_Law_law_278 m_467 ?_
          refine zq_land Z d_Law_law_281 ?_
          refine zq_lor Z d_Law_law_282 ?_
          refine zq_aload_n Z d_Law_law_283 1 rfl ?_
          refine zq_iload Z d_Law_law_284 5 rfl ?_
          refine zq_iconst Z (4 : Int32) d_Law_law_286 (by decide) ?_
          refine zq_iadd Z d_Law_law_287 ?_
          have hq := Option.bind_eq_some_iff.mp hf
          clear hf
          obtain ⟨x51, h50, hf⟩ := hq
          refine zl_sldR Z hB d_Law_law_288 h50 ?_
          have hq := Option.bind_eq_some_iff.mp hf
          clear hf
          obtain ⟨a52, h53, hf⟩ := hq
          subst h53
          have hq := zs_C hf
          clear hf
          obtain ⟨h57, hf⟩ := hq
          obtain ⟨fs58, e59⟩ := zs_isS h57
          have hq := zs_bS hf
          clear hf
          obtain ⟨S55, x56, h54, hf⟩ := hq
          refine zq_contR (zq_stepV Z zq_cf1 (c_Mo_insert hl h54) 4 rfl e59 d_Law_law_289 m_471 m_473 m_474 m_472 m_286 p_Mo_insert ⟨(Nat.le_of_ble_eq_true rfl), (Nat.le_of_ble_eq_true rfl), (by show K + 8 ≤ 601024; omega), (by show Q + 1222 ≤ 7293034; omega)⟩ rfl (Nat.le_of_ble_eq_true rfl)) Z.p ?_
          refine zq_istore Z [(6, .int x56), (5, .int x43), (0, .ref b), (1, va_rf v1), (2, .ref a52), (3, va_rf v3), (4, .int v4)] d_Law_law_292 (by decide) rfl ?_
          refine zq_aload_n Z d_Law_law_294 4 rfl ?_
          have hq := zs_C hf
          clear hf
          obtain ⟨h63, hf⟩ := hq
          obtain ⟨fs64, e65⟩ := zs_isS h63
          have hq := zs_bS hf
          clear hf
          obtain ⟨S61, x62, h60, hf⟩ := hq
          refine zq_contR (zq_stepV Z zq_cf1 (c_Mo_thrown hl h60) 4 rfl e65 d_Law_law_295 m_463 m_465 m_466 m_464 m_286 p_Mo_thrown ⟨(Nat.le_of_ble_eq_true rfl), (Nat.le_of_ble_eq_true rfl), (by show K + 8 ≤ 601024; omega), (by show Q + 1222 ≤ 7293034; omega)⟩ rfl (Nat.le_of_ble_eq_true rfl)) Z.p ?_
          refine zq_iload Z d_Law_law_298 1 rfl ?_
          refine zq_icmp_eq Z 305 d_Law_law_300 (by decide) (fun q => ?_) (fun q => ?_)
          · replace hf := zs_T q hf
            refine zq_iload Z d_Law_law_305 1 rfl ?_
            refine zq_if_ne Z 322 d_Law_law_307 (by decide) (fun q => ?_) (fun q => ?_)
            · replace hf := zs_N q hf
              refine zq_sub (lo' := [(0, .ref b), (1, va_rf v1), (2, va_rf (some a52)), (3, va_rf v3), (4, .int v4)]) [2, 3, 4, 5, 6] rfl ?_
              refine zq_wid (kc' := (K + 8)) (ks' := (Q + 1222)) (by show K + 8 ≤ (K + 8); omega) (by show Q + 1222 ≤ (Q + 1222); omega) ?_
              exact r_Law_law_322 hl Z hB hK hQ hk23 hf
            · replace hf := zs_T q hf
              refine zq_aload_nQ Z d_Law_law_310 5 rfl ?_
              refine zq_iconst Z (0 : Int32) d_Law_law_311 (by decide) ?_
              have hq := Option.bind_eq_some_iff.mp hf
              clear hf
              obtain ⟨a66, h67, hf⟩ := hq
              subst h67
              have hq := Option.bind_eq_some_iff.mp hf
              clear hf
              obtain ⟨x68, h69, hf⟩ := hq
              refine zr_laload Z 0 (fun _ => rfl) d_Law_law_312 h69 ?_
              refine zq_iload Z d_Law_law_313 0 rfl ?_
              refine zq_i2l Z d_Law_law_315 ?_
              refine zq_lcmp Z d_Law_law_316 ?_
              refine zq_if_eq Z 322 d_Law_law_317 (by decide) (fun q => ?_) (fun q => ?_)
              · replace hf := zs_T q hf
                refine zq_sub (lo' := [(0, .ref b), (1, va_rf v1), (2, va_rf (some a52)), (3, va_rf (some a66)), (4, .int v4)]) [2, 3, 4, 5, 6] rfl ?_
                refine zq_wid (kc' := (K + 8)) (ks' := (Q + 1222)) (by show K + 8 ≤ (K + 8); omega) (by show Q + 1222 ≤ (Q + 1222); omega) ?_
                exact r_Law_law_322 hl Z hB hK hQ hk23 hf
              · replace hf := zs_N q hf
                refine zq_iconst Z (0 : Int32) d_Law_law_320 (by decide) ?_
                have hq := zs_C hf
                clear hf
                obtain ⟨h70, hf⟩ := hq
                exact zq_zret Z d_Law_law_321 h70 (zs_1 hf) (zs_2 (fun z => (.inl (some (.int z)) : zq_R)) hf) ⟨(by show K + 8 ≤ 601024; omega), (by show Q + 1222 ≤ 7293034; omega)⟩
          · replace hf := zs_N q hf
            refine zq_iconst Z (0 : Int32) d_Law_law_303 (by decide) ?_
            have hq := zs_C hf
            clear hf
            obtain ⟨h71, hf⟩ := hq
            exact zq_zret Z d_Law_law_304 h71 (zs_1 hf) (zs_2 (fun z => (.inl (some (.int z)) : zq_R)) hf) ⟨(by show K + 8 ≤ 601024; omega), (by show Q + 1222 ≤ 7293034; omega)⟩
        · replace hf := zs_N c2 hf
          by_cases c3 : (x3 &&& (15 : Int32)) = 3
          · replace hf := zs_T c3 hf
            refine zq_tabIn (off := 286) Z 325 d_Law_law_39 (by rw [c3]; decide) (by rw [c3]; decide) (by rw [c3]; rfl) (by decide) ?_
            refine zq_aload_nQ Z d_Law_law_325 1 rfl ?_
            refine zq_aload_n Z d_Law_law_326 0 rfl ?_
            refine zq_iload Z d_Law_law_327 4 rfl ?_
            refine zq_iconst Z (1 : Int32) d_Law_law_329 (by decide) ?_
            refine zq_iadd Z d_Law_law_330 ?_
            have hq := Option.bind_eq_some_iff.mp hf
            clear hf
            obtain ⟨x73, h72, hf⟩ := hq
            refine zl_sldR Z hB d_Law_law_331 h72 ?_
            refine zq_aload_n Z d_Law_law_332 0 rfl ?_
            refine zq_iload Z d_Law_law_333 4 rfl ?_
            refine zq_iconst Z (2 : Int32) d_Law_law_335 (by decide) ?_
            refine zq_iadd Z d_Law_law_336 ?_
            have hq := Option.bind_eq_some_iff.mp hf
            clear hf
            obtain ⟨x75, h74, hf⟩ := hq
            refine zl_sldR Z hB d_Law_law_337 h74 ?_
            refine zq_aload_nQ Z d_Law_law_338 3 rfl ?_
            have hq := zs_bS hf
            clear hf
            obtain ⟨S77, x78, h76, hf⟩ := hq
            refine zq_contR (zq_stepS Z zq_cf2 (c_Law_erase hl h76) d_Law_law_339 m_475 m_476 m_477 m_458 p_Law_erase ⟨(Nat.le_of_ble_eq_true rfl), (Nat.le_of_ble_eq_true rfl), (by show K + 7 ≤ 601024; omega), (by show Q + 1216 ≤ 7293034; omega)⟩ rfl (Nat.le_of_ble_eq_true rfl)) Z.p ?_
            refine zq_istore Z [(5, .int x78), (0, .ref b), (1, va_rf v1), (2, va_rf v2), (3, va_rf v3), (4, .int v4)] d_Law_law_342 (by decide) rfl ?_
            refine zq_aload_nQ Z d_Law_law_344 3 rfl ?_
            refine zq_aload_n Z d_Law_law_345 1 rfl ?_
            refine zq_iload Z d_Law_law_346 5 rfl ?_
            refine zq_iconst Z (1 : Int32) d_Law_law_348 (by decide) ?_
            refine zq_iadd Z d_Law_law_349 ?_
            have hq := Option.bind_eq_some_iff.mp hf
            clear hf
            obtain ⟨x80, h79, hf⟩ := hq
            refine zl_sldR Z hB d_Law_law_350 h79 ?_
            refine zq_aload_n Z d_Law_law_351 1 rfl ?_
            refine zq_iload Z d_Law_law_352 5 rfl ?_
            refine zq_iconst Z (2 : Int32) d_Law_law_354 (by decide) ?_
            refine zq_iadd Z d_Law_law_355 ?_
            have hq := Option.bind_eq_some_iff.mp hf
            clear hf
            obtain ⟨x82, h81, hf⟩ := hq
            refine zl_sldR Z hB d_Law_law_356 h81 ?_
            have hq := Option.bind_eq_some_iff.mp hf
            clear hf
            obtain ⟨a83, h84, hf⟩ := hq
            subst h84
            have hq := zs_C hf
            clear hf
            obtain ⟨h88, hf⟩ := hq
            obtain ⟨fs89, e90⟩ := zs_isS h88
            have hq := zs_bS hf
            clear hf
            obtain ⟨S86, x87, h85, hf⟩ := hq
            refine zq_contR (zq_stepV Z zq_cf1 (c_Mo_erase hl h85) 4 rfl e90 d_Law_law_357 m_478 m_480 m_481 m_479 m_286 p_Mo_erase ⟨(Nat.le_of_ble_eq_true rfl), (Nat.le_of_ble_eq_true rfl), (by show K + 7 ≤ 601024; omega), (by show Q + 1216 ≤ 7293034; omega)⟩ rfl (Nat.le_of_ble_eq_true rfl)) Z.p ?_
            refine zq_istore Z [(6, .int x87), (5, .int x78), (0, .ref b), (1, va_rf v1), (2, .ref a83), (3, va_rf v3), (4, .int v4)] d_Law_law_360 (by decide) rfl ?_
            refine zq_aload_n Z d_Law_law_362 4 rfl ?_
            have hq := zs_C hf
            clear hf
            obtain ⟨h94, hf⟩ := hq
            obtain ⟨fs95, e96⟩ := zs_isS h94
            have hq := zs_bS hf
            clear hf
            obtain ⟨S92, x93, h91, hf⟩ := hq
            refine zq_contR (zq_stepV Z zq_cf1 (c_Mo_thrown hl h91) 4 rfl e96 d_Law_law_363 m_463 m_465 m_466 m_464 m_286 p_Mo_thrown ⟨(Nat.le_of_ble_eq_true rfl), (Nat.le_of_ble_eq_true rfl), (by show K + 7 ≤ 601024; omega), (by show Q + 1216 ≤ 7293034; omega)⟩ rfl (Nat.le_of_ble_eq_true rfl)) Z.p ?_
            refine zq_iload Z d_Law_law_366 1 rfl ?_
            refine zq_icmp_eq Z 373 d_Law_law_368 (by decide) (fun q => ?_) (fun q => ?_)
            · replace hf := zs_T q hf
              refine zq_iload Z d_Law_law_373 1 rfl ?_
              refine zq_if_ne Z 390 d_Law_law_375 (by decide) (fun q => ?_) (fun q => ?_)
              · replace hf := zs_N q hf
                refine zq_sub (lo' := [(0, .ref b), (1, va_rf v1), (2, va_rf (some a83)), (3, va_rf v3), (4, .int v4)]) [2, 3, 4, 5, 6] rfl ?_
                refine zq_wid (kc' := (K + 7)) (ks' := (Q + 1216)) (by show K + 7 ≤ (K + 7); omega) (by show Q + 1216 ≤ (Q + 1216); omega) ?_
                exact r_Law_law_390 hl Z hB hK hQ hk23 hf
              · replace hf := zs_T q hf
                refine zq_aload_nQ Z d_Law_law_378 5 rfl ?_
                refine zq_iconst Z (0 : Int32) d_Law_law_379 (by decide) ?_
                have hq := Option.bind_eq_some_iff.mp hf
                clear hf
                obtain ⟨a97, h98, hf⟩ := hq
                subst h98
                have hq := Option.bind_eq_some_iff.mp hf
                clear hf
                obtain ⟨x99, h100, hf⟩ := hq
                refine zr_laload Z 0 (fun _ => rfl) d_Law_law_380 h100 ?_
                refine zq_iload Z d_Law_law_381 0 rfl ?_
                refine zq_i2l Z d_Law_law_383 ?_
                refine zq_lcmp Z d_Law_law_384 ?_
                refine zq_if_eq Z 390 d_Law_law_385 (by decide) (fun q => ?_) (fun q => ?_)
                · replace hf := zs_T q hf
                  refine zq_sub (lo' := [(0, .ref b), (1, va_rf v1), (2, va_rf (some a83)), (3, va_rf (some a97)), (4, .int v4)]) [2, 3, 4, 5, 6] rfl ?_
                  refine zq_wid (kc' := (K + 7)) (ks' := (Q + 1216)) (by show K + 7 ≤ (K + 7); omega) (by show Q + 1216 ≤ (Q + 1216); omega) ?_
                  exact r_Law_law_390 hl Z hB hK hQ hk23 hf
                · replace hf := zs_N q hf
                  refine zq_iconst Z (0 : Int32) d_Law_law_388 (by decide) ?_
                  have hq := zs_C hf
                  clear hf
                  obtain ⟨h101, hf⟩ := hq
                  exact zq_zret Z d_Law_law_389 h101 (zs_1 hf) (zs_2 (fun z => (.inl (some (.int z)) : zq_R)) hf) ⟨(by show K + 7 ≤ 601024; omega), (by show Q + 1216 ≤ 7293034; omega)⟩
            · replace hf := zs_N q hf
              refine zq_iconst Z (0 : Int32) d_Law_law_371 (by decide) ?_
              have hq := zs_C hf
              clear hf
              obtain ⟨h102, hf⟩ := hq
              exact zq_zret Z d_Law_law_372 h102 (zs_1 hf) (zs_2 (fun z => (.inl (some (.int z)) : zq_R)) hf) ⟨(by show K + 7 ≤ 601024; omega), (by show Q + 1216 ≤ 7293034; omega)⟩
          · replace hf := zs_N c3 hf
            by_cases c4 : (x3 &&& (15 : Int32)) = 4
            · replace hf := zs_T c4 hf
              refine zq_tabIn (off := 354) Z 393 d_Law_law_39 (by rw [c4]; decide) (by rw [c4]; decide) (by rw [c4]; rfl) (by decide) ?_
              refine zq_aload_nQ Z d_Law_law_393 1 rfl ?_
              refine zq_aload_n Z d_Law_law_394 0 rfl ?_
              refine zq_iload Z d_Law_law_395 4 rfl ?_
              refine zq_iconst Z (1 : Int32) d_Law_law_397 (by decide) ?_
              refine zq_iadd Z d_Law_law_398 ?_
              have hq := Option.bind_eq_some_iff.mp hf
              clear hf
              obtain ⟨x104, h103, hf⟩ := hq
              refine zl_sldR Z hB d_Law_law_399 h103 ?_
              refine zq_aload_n Z d_Law_law_400 0 rfl ?_
              refine zq_iload Z d_Law_law_401 4 rfl ?_
              refine zq_iconst Z (2 : Int32) d_Law_law_403 (by decide) ?_
              refine zq_iadd Z d_Law_law_404 ?_
              have hq := Option.bind_eq_some_iff.mp hf
              clear hf
              obtain ⟨x106, h105, hf⟩ := hq
              refine zl_sldR Z hB d_Law_law_405 h105 ?_
              refine zq_aload_n Z d_Law_law_406 0 rfl ?_
              refine zq_iload Z d_Law_law_407 4 rfl ?_
              refine zq_iconst Z (3 : Int32) d_Law_law_409 (by decide) ?_
              refine zq_iadd Z d_Law_law_410 ?_
              have hq := Option.bind_eq_some_iff.mp hf
              clear hf
              obtain ⟨x108, h107, hf⟩ := hq
              refine zl_sldR Z hB d_Law_law_411 h107 ?_
              refine zq_aload_nQ Z d_Law_law_412 3 rfl ?_
              have hq := zs_bS hf
              clear hf
              obtain ⟨S110, x111, h109, hf⟩ := hq
              refine zq_contR (zq_stepS Z zq_cf2 (c_Law_format hl h109) d_Law_law_413 m_482 m_483 m_484 m_458 p_Law_format ⟨(Nat.le_of_ble_eq_true rfl), (Nat.le_of_ble_eq_true rfl), (by show K + 8 ≤ 601024; omega), (by show Q + 1222 ≤ 7293034; omega)⟩ rfl (Nat.le_of_ble_eq_true rfl)) Z.p ?_
              refine zq_istore Z [(5, .int x111), (0, .ref b), (1, va_rf v1), (2, va_rf v2), (3, va_rf v3), (4, .int v4)] d_Law_law_416 (by decide) rfl ?_
              refine zq_aload_nQ Z d_Law_law_418 3 rfl ?_
              refine zq_aload_n Z d_Law_law_419 1 rfl ?_
              refine zq_iload Z d_Law_law_420 5 rfl ?_
              refine zq_iconst Z (1 : Int32) d_Law_law_422 (by decide) ?_
              refine zq_iadd Z d_Law_law_423 ?_
              have hq := Option.bind_eq_some_iff.mp hf
              clear hf
              obtain ⟨x113, h112, hf⟩ := hq
              refine zl_sldR Z hB d_Law_law_424 h112 ?_
              refine zq_aload_n Z d_Law_law_425 1 rfl ?_
              refine zq_iload Z d_Law_law_426 5 rfl ?_
              refine zq_iconst Z (2 : Int32) d_Law_law_428 (by decide) ?_
              refine zq_iadd Z d_Law_law_429 ?_
              have hq := Option.bind_eq_some_iff.mp hf
              clear hf
              obtain ⟨x115, h114, hf⟩ := hq
              refine zl_sldR Z hB d_Law_law_430 h114 ?_
              refine zq_aload_n Z d_Law_law_431 1 rfl ?_
              refine zq_iload Z d_Law_law_432 5 rfl ?_
              refine zq_iconst Z (3 : Int32) d_Law_law_434 (by decide) ?_
              refine zq_iadd Z d_Law_law_435 ?_
              have hq := Option.bind_eq_some_iff.mp hf
              clear hf
              obtain ⟨x117, h116, hf⟩ := hq
              refine zl_sldR Z hB d_Law_law_436 h116 ?_
              have hq := Option.bind_eq_some_iff.mp hf
              clear hf
              obtain ⟨a118, h119, hf⟩ := hq
              subst h119
              have hq := zs_C hf
              clear hf
              obtain ⟨h123, hf⟩ := hq
              obtain ⟨fs124, e125⟩ := zs_isS h123
              have hq := zs_bS hf
              clear hf
              obtain ⟨S121, x122, h120, hf⟩ := hq
              refine zq_contR (zq_stepV Z zq_cf1 (c_Mo_format hl h120) 4 rfl e125 d_Law_law_437 m_485 m_487 m_488 m_486 m_286 p_Mo_format ⟨(Nat.le_of_ble_eq_true rfl), (Nat.le_of_ble_eq_true rfl), (by show K + 8 ≤ 601024; omega), (by show Q + 1222 ≤ 7293034; omega)⟩ rfl (Nat.le_of_ble_eq_true rfl)) Z.p ?_
              refine zq_istore Z [(6, .int x122), (5, .int x111), (0, .ref b), (1, va_rf v1), (2, .ref a118), (3, va_rf v3), (4, .int v4)] d_Law_law_440 (by decide) rfl ?_
              refine zq_aload_n Z d_Law_law_442 4 rfl ?_
              have hq := zs_C hf
              clear hf
              obtain ⟨h129, hf⟩ := hq
              obtain ⟨fs130, e131⟩ := zs_isS h129
              have hq := zs_bS hf
              clear hf
              obtain ⟨S127, x128, h126, hf⟩ := hq
              refine zq_contR (zq_stepV Z zq_cf1 (c_Mo_thrown hl h126) 4 rfl e131 d_Law_law_443 m_463 m_465 m_466 m_464 m_286 p_Mo_thrown ⟨(Nat.le_of_ble_eq_true rfl), (Nat.le_of_ble_eq_true rfl), (by show K + 8 ≤ 601024; omega), (by show Q + 1222 ≤ 7293034; omega)⟩ rfl (Nat.le_of_ble_eq_true rfl)) Z.p ?_
              refine zq_iload Z d_Law_law_446 1 rfl ?_
              refine zq_icmp_eq Z 453 d_Law_law_448 (by decide) (fun q => ?_) (fun q => ?_)
              · replace hf := zs_T q hf
                refine zq_iload Z d_Law_law_453 1 rfl ?_
                refine zq_if_ne Z 470 d_Law_law_455 (by decide) (fun q => ?_) (fun q => ?_)
                · replace hf := zs_N q hf
                  refine zq_sub (lo' := [(0, .ref b), (1, va_rf v1), (2, va_rf (some a118)), (3, va_rf v3), (4, .int v4)]) [2, 3, 4, 5, 6] rfl ?_
                  refine zq_wid (kc' := (K + 8)) (ks' := (Q + 1222)) (by show K + 8 ≤ (K + 8); omega) (by show Q + 1222 ≤ (Q + 1222); omega) ?_
                  exact r_Law_law_470 hl Z hB hK hQ hk23 hf
                · replace hf := zs_T q hf
                  refine zq_aload_nQ Z d_Law_law_458 5 rfl ?_
                  refine zq_iconst Z (0 : Int32) d_Law_law_459 (by decide) ?_
                  have hq := Option.bind_eq_some_iff.mp hf
                  clear hf
                  obtain ⟨a132, h133, hf⟩ := hq
                  subst h133
                  have hq := Option.bind_eq_some_iff.mp hf
                  clear hf
                  obtain ⟨x134, h135, hf⟩ := hq
                  refine zr_laload Z 0 (fun _ => rfl) d_Law_law_460 h135 ?_
                  refine zq_iload Z d_Law_law_461 0 rfl ?_
                  refine zq_i2l Z d_Law_law_463 ?_
                  refine zq_lcmp Z d_Law_law_464 ?_
                  refine zq_if_eq Z 470 d_Law_law_465 (by decide) (fun q => ?_) (fun q => ?_)
                  · replace hf := zs_T q hf
                    refine zq_sub (lo' := [(0, .ref b), (1, va_rf v1), (2, va_rf (some a118)), (3, va_rf (some a132)), (4, .int v4)]) [2, 3, 4, 5, 6] rfl ?_
                    refine zq_wid (kc' := (K + 8)) (ks' := (Q + 1222)) (by show K + 8 ≤ (K + 8); omega) (by show Q + 1222 ≤ (Q + 1222); omega) ?_
                    exact r_Law_law_470 hl Z hB hK hQ hk23 hf
                  · replace hf := zs_N q hf
                    refine zq_iconst Z (0 : Int32) d_Law_law_468 (by decide) ?_
                    have hq := zs_C hf
                    clear hf
                    obtain ⟨h136, hf⟩ := hq
                    exact zq_zret Z d_Law_law_469 h136 (zs_1 hf) (zs_2 (fun z => (.inl (some (.int z)) : zq_R)) hf) ⟨(by show K + 8 ≤ 601024; omega), (by show Q + 1222 ≤ 7293034; omega)⟩
              · replace hf := zs_N q hf
                refine zq_iconst Z (0 : Int32) d_Law_law_451 (by decide) ?_
                have hq := zs_C hf
                clear hf
                obtain ⟨h137, hf⟩ := hq
                exact zq_zret Z d_Law_law_452 h137 (zs_1 hf) (zs_2 (fun z => (.inl (some (.int z)) : zq_R)) hf) ⟨(by show K + 8 ≤ 601024; omega), (by show Q + 1222 ≤ 7293034; omega)⟩
            · replace hf := zs_N c4 hf
              by_cases c5 : (x3 &&& (15 : Int32)) = 5
              · replace hf := zs_T c5 hf
                refine zq_tabIn (off := 434) Z 473 d_Law_law_39 (by rw [c5]; decide) (by rw [c5]; decide) (by rw [c5]; rfl) (by decide) ?_
                refine zq_aload_nQ Z d_Law_law_473 1 rfl ?_
                refine zq_aload_n Z d_Law_law_474 0 rfl ?_
                refine zq_iload Z d_Law_law_475 4 rfl ?_
                refine zq_iconst Z (1 : Int32) d_Law_law_477 (by decide) ?_
                refine zq_iadd Z d_Law_law_478 ?_
                have hq := Option.bind_eq_some_iff.mp hf
                clear hf
                obtain ⟨x139, h138, hf⟩ := hq
                refine zl_sldR Z hB d_Law_law_479 h138 ?_
                refine zq_aload_n Z d_Law_law_480 0 rfl ?_
                refine zq_iload Z d_Law_law_481 4 rfl ?_
                refine zq_iconst Z (2 : Int32) d_Law_law_483 (by decide) ?_
                refine zq_iadd Z d_Law_law_484 ?_
                have hq := Option.bind_eq_some_iff.mp hf
                clear hf
                obtain ⟨x141, h140, hf⟩ := hq
                refine zl_sldR Z hB d_Law_law_485 h140 ?_
                refine zq_aload_n Z d_Law_law_486 0 rfl ?_
                refine zq_iload Z d_Law_law_487 4 rfl ?_
                refine zq_iconst Z (3 : Int32) d_Law_law_489 (by decide) ?_
                refine zq_iadd Z d_Law_law_490 ?_
                have hq := Option.bind_eq_some_iff.mp hf
                clear hf
                obtain ⟨x143, h142, hf⟩ := hq
                refine zl_sldR Z hB d_Law_law_491 h142 ?_
                refine zq_aload_nQ Z d_Law_law_492 3 rfl ?_
                have hq := zs_bS hf
                clear hf
                obtain ⟨S145, x146, h144, hf⟩ := hq
                refine zq_contR (zq_stepS Z zq_cf2 (c_Law_accept hl h144) d_Law_law_493 m_489 m_490 m_491 m_458 p_Law_accept ⟨(Nat.le_of_ble_eq_true rfl), (Nat.le_of_ble_eq_true rfl), (by show K + 8 ≤ 601024; omega), (by show Q + 1222 ≤ 7293034; omega)⟩ rfl (Nat.le_of_ble_eq_true rfl)) Z.p ?_
                refine zq_istore Z [(5, .int x146), (0, .ref b), (1, va_rf v1), (2, va_rf v2), (3, va_rf v3), (4, .int v4)] d_Law_law_496 (by decide) rfl ?_
                refine zq_aload_nQ Z d_Law_law_498 3 rfl ?_
                refine zq_aload_n Z d_Law_law_499 1 rfl ?_
                refine zq_iload Z d_Law_law_500 5 rfl ?_
                refine zq_iconst Z (1 : Int32) d_Law_law_502 (by decide) ?_
                refine zq_iadd Z d_Law_law_503 ?_
                have hq := Option.bind_eq_some_iff.mp hf
                clear hf
                obtain ⟨x148, h147, hf⟩ := hq
                refine zl_sldR Z hB d_Law_law_504 h147 ?_
                refine zq_aload_n Z d_Law_law_505 1 rfl ?_
                refine zq_iload Z d_Law_law_506 5 rfl ?_
                refine zq_iconst Z (2 : Int32) d_Law_law_508 (by decide) ?_
                refine zq_iadd Z d_Law_law_509 ?_
                have hq := Option.bind_eq_some_iff.mp hf
                clear hf
                obtain ⟨x150, h149, hf⟩ := hq
                refine zl_sldR Z hB d_Law_law_510 h149 ?_
                refine zq_aload_n Z d_Law_law_511 1 rfl ?_
                refine zq_iload Z d_Law_law_512 5 rfl ?_
                refine zq_iconst Z (3 : Int32) d_Law_law_514 (by decide) ?_
                refine zq_iadd Z d_Law_law_515 ?_
                have hq := Option.bind_eq_some_iff.mp hf
                clear hf
                obtain ⟨x152, h151, hf⟩ := hq
                refine zl_sldR Z hB d_Law_law_516 h151 ?_
                have hq := Option.bind_eq_some_iff.mp hf
                clear hf
                obtain ⟨a153, h154, hf⟩ := hq
                subst h154
                have hq := zs_C hf
                clear hf
                obtain ⟨h158, hf⟩ := hq
                obtain ⟨fs159, e160⟩ := zs_isS h158
                have hq := zs_bS hf
                clear hf
                obtain ⟨S156, x157, h155, hf⟩ := hq
                refine zq_contR (zq_stepV Z zq_cf1 (c_Mo_accept hl h155) 4 rfl e160 d_Law_law_517 m_492 m_494 m_495 m_493 m_286 p_Mo_accept ⟨(Nat.le_of_ble_eq_true rfl), (Nat.le_of_ble_eq_true rfl), (by show K + 8 ≤ 601024; omega), (by show Q + 1222 ≤ 7293034; omega)⟩ rfl (Nat.le_of_ble_eq_true rfl)) Z.p ?_
                refine zq_istore Z [(6, .int x157), (5, .int x146), (0, .ref b), (1, va_rf v1), (2, .ref a153), (3, va_rf v3), (4, .int v4)] d_Law_law_520 (by decide) rfl ?_
                refine zq_aload_n Z d_Law_law_522 4 rfl ?_
                have hq := zs_C hf
                clear hf
                obtain ⟨h164, hf⟩ := hq
                obtain ⟨fs165, e166⟩ := zs_isS h164
                have hq := zs_bS hf
                clear hf
                obtain ⟨S162, x163, h161, hf⟩ := hq
                refine zq_contR (zq_stepV Z zq_cf1 (c_Mo_thrown hl h161) 4 rfl e166 d_Law_law_523 m_463 m_465 m_466 m_464 m_286 p_Mo_thrown ⟨(Nat.le_of_ble_eq_true rfl), (Nat.le_of_ble_eq_true rfl), (by show K + 8 ≤ 601024; omega), (by show Q + 1222 ≤ 7293034; omega)⟩ rfl (Nat.le_of_ble_eq_true rfl)) Z.p ?_
                refine zq_iload Z d_Law_law_526 1 rfl ?_
                refine zq_icmp_eq Z 533 d_Law_law_528 (by decide) (fun q => ?_) (fun q => ?_)
                · replace hf := zs_T q hf
                  refine zq_iload Z d_Law_law_533 1 rfl ?_
                  refine zq_if_ne Z 550 d_Law_law_535 (by decide) (fun q => ?_) (fun q => ?_)
                  · replace hf := zs_N q hf
                    refine zq_sub (lo' := [(0, .ref b), (1, va_rf v1), (2, va_rf (some a153)), (3, va_rf v3), (4, .int v4)]) [2, 3, 4, 5, 6] rfl ?_
                    refine zq_wid (kc' := (K + 8)) (ks' := (Q + 1222)) (by show K + 8 ≤ (K + 8); omega) (by show Q + 1222 ≤ (Q + 1222); omega) ?_
                    exact r_Law_law_550 hl Z hB hK hQ hk23 hf
                  · replace hf := zs_T q hf
                    refine zq_aload_nQ Z d_Law_law_538 5 rfl ?_
                    refine zq_iconst Z (0 : Int32) d_Law_law_539 (by decide) ?_
                    have hq := Option.bind_eq_some_iff.mp hf
                    clear hf
                    obtain ⟨a167, h168, hf⟩ := hq
                    subst h168
                    have hq := Option.bind_eq_some_iff.mp hf
                    clear hf
                    obtain ⟨x169, h170, hf⟩ := hq
                    refine zr_laload Z 0 (fun _ => rfl) d_Law_law_540 h170 ?_
                    refine zq_iload Z d_Law_law_541 0 rfl ?_
                    refine zq_i2l Z d_Law_law_543 ?_
                    refine zq_lcmp Z d_Law_law_544 ?_
                    refine zq_if_eq Z 550 d_Law_law_545 (by decide) (fun q => ?_) (fun q => ?_)
                    · replace hf := zs_T q hf
                      refine zq_sub (lo' := [(0, .ref b), (1, va_rf v1), (2, va_rf (some a153)), (3, va_rf (some a167)), (4, .int v4)]) [2, 3, 4, 5, 6] rfl ?_
                      refine zq_wid (kc' := (K + 8)) (ks' := (Q + 1222)) (by show K + 8 ≤ (K + 8); omega) (by show Q + 1222 ≤ (Q + 1222); omega) ?_
                      exact r_Law_law_550 hl Z hB hK hQ hk23 hf
                    · replace hf := zs_N q hf
                      refine zq_iconst Z (0 : Int32) d_Law_law_548 (by decide) ?_
                      have hq := zs_C hf
                      clear hf
                      obtain ⟨h171, hf⟩ := hq
                      exact zq_zret Z d_Law_law_549 h171 (zs_1 hf) (zs_2 (fun z => (.inl (some (.int z)) : zq_R)) hf) ⟨(by show K + 8 ≤ 601024; omega), (by show Q + 1222 ≤ 7293034; omega)⟩
                · replace hf := zs_N q hf
                  refine zq_iconst Z (0 : Int32) d_Law_law_531 (by decide) ?_
                  have hq := zs_C hf
                  clear hf
                  obtain ⟨h172, hf⟩ := hq
                  exact zq_zret Z d_Law_law_532 h172 (zs_1 hf) (zs_2 (fun z => (.inl (some (.int z)) : zq_R)) hf) ⟨(by show K + 8 ≤ 601024; omega), (by show Q + 1222 ≤ 7293034; omega)⟩
              · replace hf := zs_N c5 hf
                by_cases c6 : (x3 &&& (15 : Int32)) = 6
                · replace hf := zs_T c6 hf
                  refine zq_tabIn (off := 514) Z 553 d_Law_law_39 (by rw [c6]; decide) (by rw [c6]; decide) (by rw [c6]; rfl) (by decide) ?_
                  refine zq_aload_nQ Z d_Law_law_553 1 rfl ?_
                  refine zq_aload_n Z d_Law_law_554 0 rfl ?_
                  refine zq_iload Z d_Law_law_555 4 rfl ?_
                  refine zq_iconst Z (1 : Int32) d_Law_law_557 (by decide) ?_
                  refine zq_iadd Z d_Law_law_558 ?_
                  have hq := Option.bind_eq_some_iff.mp hf
                  clear hf
                  obtain ⟨x174, h173, hf⟩ := hq
                  refine zl_sldR Z hB d_Law_law_559 h173 ?_
                  refine zq_aload_n Z d_Law_law_560 0 rfl ?_
                  refine zq_iload Z d_Law_law_561 4 rfl ?_
                  refine zq_iconst Z (2 : Int32) d_Law_law_563 (by decide) ?_
                  refine zq_iadd Z d_Law_law_564 ?_
                  have hq := Option.bind_eq_some_iff.mp hf
                  clear hf
                  obtain ⟨x176, h175, hf⟩ := hq
                  refine zl_sldR Z hB d_Law_law_565 h175 ?_
                  refine zq_aload_n Z d_Law_law_566 0 rfl ?_
                  refine zq_iload Z d_Law_law_567 4 rfl ?_
                  refine zq_iconst Z (3 : Int32) d_Law_law_569 (by decide) ?_
                  refine zq_iadd Z d_Law_law_570 ?_
                  have hq := Option.bind_eq_some_iff.mp hf
                  clear hf
                  obtain ⟨x178, h177, hf⟩ := hq
                  refine zl_sldR Z hB d_Law_law_571 h177 ?_
                  refine zq_aload_nQ Z d_Law_law_572 3 rfl ?_
                  have hq := zs_bS hf
                  clear hf
                  obtain ⟨S180, x181, h179, hf⟩ := hq
                  refine zq_contR (zq_stepS Z zq_cf2 (c_Law_reject hl h179) d_Law_law_573 m_496 m_497 m_498 m_458 p_Law_reject ⟨(Nat.le_of_ble_eq_true rfl), (Nat.le_of_ble_eq_true rfl), (by show K + 8 ≤ 601024; omega), (by show Q + 1222 ≤ 7293034; omega)⟩ rfl (Nat.le_of_ble_eq_true rfl)) Z.p ?_
                  refine zq_istore Z [(5, .int x181), (0, .ref b), (1, va_rf v1), (2, va_rf v2), (3, va_rf v3), (4, .int v4)] d_Law_law_576 (by decide) rfl ?_
                  refine zq_aload_nQ Z d_Law_law_578 3 rfl ?_
                  refine zq_aload_n Z d_Law_law_579 1 rfl ?_
                  refine zq_iload Z d_Law_law_580 5 rfl ?_
                  refine zq_iconst Z (1 : Int32) d_Law_law_582 (by decide) ?_
                  refine zq_iadd Z d_Law_law_583 ?_
                  have hq := Option.bind_eq_some_iff.mp hf
                  clear hf
                  obtain ⟨x183, h182, hf⟩ := hq
                  refine zl_sldR Z hB d_Law_law_584 h182 ?_
                  refine zq_aload_n Z d_Law_law_585 1 rfl ?_
                  refine zq_iload Z d_Law_law_586 5 rfl ?_
                  refine zq_iconst Z (2 : Int32) d_Law_law_588 (by decide) ?_
                  refine zq_iadd Z d_Law_law_589 ?_
                  have hq := Option.bind_eq_some_iff.mp hf
                  clear hf
                  obtain ⟨x185, h184, hf⟩ := hq
                  refine zl_sldR Z hB d_Law_law_590 h184 ?_
                  refine zq_aload_n Z d_Law_law_591 1 rfl ?_
                  refine zq_iload Z d_Law_law_592 5 rfl ?_
                  refine zq_iconst Z (3 : Int32) d_Law_law_594 (by decide) ?_
                  refine zq_iadd Z d_Law_law_595 ?_
                  have hq := Option.bind_eq_some_iff.mp hf
                  clear hf
                  obtain ⟨x187, h186, hf⟩ := hq
                  refine zl_sldR Z hB d_Law_law_596 h186 ?_
                  have hq := Option.bind_eq_some_iff.mp hf
                  clear hf
                  obtain ⟨a188, h189, hf⟩ := hq
                  subst h189
                  have hq := zs_C hf
                  clear hf
                  obtain ⟨h193, hf⟩ := hq
                  obtain ⟨fs194, e195⟩ := zs_isS h193
                  have hq := zs_bS hf
                  clear hf
                  obtain ⟨S191, x192, h190, hf⟩ := hq
                  refine zq_contR (zq_stepV Z zq_cf1 (c_Mo_reject hl h190) 4 rfl e195 d_Law_law_597 m_499 m_501 m_502 m_500 m_286 p_Mo_reject ⟨(Nat.le_of_ble_eq_true rfl), (Nat.le_of_ble_eq_true rfl), (by show K + 8 ≤ 601024; omega), (by show Q + 1222 ≤ 7293034; omega)⟩ rfl (Nat.le_of_ble_eq_true rfl)) Z.p ?_
                  refine zq_istore Z [(6, .int x192), (5, .int x181), (0, .ref b), (1, va_rf v1), (2, .ref a188), (3, va_rf v3), (4, .int v4)] d_Law_law_600 (by decide) rfl ?_
                  refine zq_aload_n Z d_Law_law_602 4 rfl ?_
                  have hq := zs_C hf
                  clear hf
                  obtain ⟨h199, hf⟩ := hq
                  obtain ⟨fs200, e201⟩ := zs_isS h199
                  have hq := zs_bS hf
                  clear hf
                  obtain ⟨S197, x198, h196, hf⟩ := hq
                  refine zq_contR (zq_stepV Z zq_cf1 (c_Mo_thrown hl h196) 4 rfl e201 d_Law_law_603 m_463 m_465 m_466 m_464 m_286 p_Mo_thrown ⟨(Nat.le_of_ble_eq_true rfl), (Nat.le_of_ble_eq_true rfl), (by show K + 8 ≤ 601024; omega), (by show Q + 1222 ≤ 7293034; omega)⟩ rfl (Nat.le_of_ble_eq_true rfl)) Z.p ?_
                  refine zq_iload Z d_Law_law_606 1 rfl ?_
                  refine zq_icmp_eq Z 613 d_Law_law_608 (by decide) (fun q => ?_) (fun q => ?_)
                  · replace hf := zs_T q hf
                    refine zq_iload Z d_Law_law_613 1 rfl ?_
                    refine zq_if_ne Z 630 d_Law_law_615 (by decide) (fun q => ?_) (fun q => ?_)
                    · replace hf := zs_N q hf
                      refine zq_sub (lo' := [(0, .ref b), (1, va_rf v1), (2, va_rf (some a188)), (3, va_rf v3), (4, .int v4)]) [2, 3, 4, 5, 6] rfl ?_
                      refine zq_wid (kc' := (K + 8)) (ks' := (Q + 1222)) (by show K + 8 ≤ (K + 8); omega) (by show Q + 1222 ≤ (Q + 1222); omega) ?_
                      exact r_Law_law_630 hl Z hB hK hQ hk23 hf
                    · replace hf := zs_T q hf
                      refine zq_aload_nQ Z d_Law_law_618 5 rfl ?_
                      refine zq_iconst Z (0 : Int32) d_Law_law_619 (by decide) ?_
                      have hq := Option.bind_eq_some_iff.mp hf
                      clear hf
                      obtain ⟨a202, h203, hf⟩ := hq
                      subst h203
                      have hq := Option.bind_eq_some_iff.mp hf
                      clear hf
                      obtain ⟨x204, h205, hf⟩ := hq
                      refine zr_laload Z 0 (fun _ => rfl) d_Law_law_620 h205 ?_
                      refine zq_iload Z d_Law_law_621 0 rfl ?_
                      refine zq_i2l Z d_Law_law_623 ?_
                      refine zq_lcmp Z d_Law_law_624 ?_
                      refine zq_if_eq Z 630 d_Law_law_625 (by decide) (fun q => ?_) (fun q => ?_)
                      · replace hf := zs_T q hf
                        refine zq_sub (lo' := [(0, .ref b), (1, va_rf v1), (2, va_rf (some a188)), (3, va_rf (some a202)), (4, .int v4)]) [2, 3, 4, 5, 6] rfl ?_
                        refine zq_wid (kc' := (K + 8)) (ks' := (Q + 1222)) (by show K + 8 ≤ (K + 8); omega) (by show Q + 1222 ≤ (Q + 1222); omega) ?_
                        exact r_Law_law_630 hl Z hB hK hQ hk23 hf
                      · replace hf := zs_N q hf
                        refine zq_iconst Z (0 : Int32) d_Law_law_628 (by decide) ?_
                        have hq := zs_C hf
                        clear hf
                        obtain ⟨h206, hf⟩ := hq
                        exact zq_zret Z d_Law_law_629 h206 (zs_1 hf) (zs_2 (fun z => (.inl (some (.int z)) : zq_R)) hf) ⟨(by show K + 8 ≤ 601024; omega), (by show Q + 1222 ≤ 7293034; omega)⟩
                  · replace hf := zs_N q hf
                    refine zq_iconst Z (0 : Int32) d_Law_law_611 (by decide) ?_
                    have hq := zs_C hf
                    clear hf
                    obtain ⟨h207, hf⟩ := hq
                    exact zq_zret Z d_Law_law_612 h207 (zs_1 hf) (zs_2 (fun z => (.inl (some (.int z)) : zq_R)) hf) ⟨(by show K + 8 ≤ 601024; omega), (by show Q + 1222 ≤ 7293034; omega)⟩
                · replace hf := zs_N c6 hf
                  by_cases c7 : (x3 &&& (15 : Int32)) = 7
                  · replace hf := zs_T c7 hf
                    refine zq_tabIn (off := 594) Z 633 d_Law_law_39 (by rw [c7]; decide) (by rw [c7]; decide) (by rw [c7]; rfl) (by decide) ?_
                    refine zq_aload_nQ Z d_Law_law_633 1 rfl ?_
                    have hq := zs_bS hf
                    clear hf
                    obtain ⟨S209, x210, h208, hf⟩ := hq
                    refine zq_contR (zq_stepS Z zq_cf2 (c_Law_open hl h208) d_Law_law_634 m_503 m_504 m_505 m_458 p_Law_open ⟨(Nat.le_of_ble_eq_true rfl), (Nat.le_of_ble_eq_true rfl), (by show K + 1 ≤ 601024; omega), (by show Q + 6 ≤ 7293034; omega)⟩ rfl (Nat.le_of_ble_eq_true rfl)) Z.p ?_
                    refine zq_istore Z [(5, .int x210), (0, .ref b), (1, va_rf v1), (2, va_rf v2), (3, va_rf v3), (4, .int v4)] d_Law_law_637 (by decide) rfl ?_
                    refine zq_aload_nQ Z d_Law_law_639 3 rfl ?_
                    have hq := Option.bind_eq_some_iff.mp hf
                    clear hf
                    obtain ⟨a211, h212, hf⟩ := hq
                    subst h212
                    have hq := zs_C hf
                    clear hf
                    obtain ⟨h216, hf⟩ := hq
                    obtain ⟨fs217, e218⟩ := zs_isS h216
                    have hq := zs_bS hf
                    clear hf
                    obtain ⟨S214, x215, h213, hf⟩ := hq
                    refine zq_contR (zq_stepV Z zq_cf1 (c_Mo_open hl h213) 4 rfl e218 d_Law_law_640 m_506 m_508 m_509 m_507 m_286 p_Mo_open ⟨(Nat.le_of_ble_eq_true rfl), (Nat.le_of_ble_eq_true rfl), (by show K + 1 ≤ 601024; omega), (by show Q + 6 ≤ 7293034; omega)⟩ rfl (Nat.le_of_ble_eq_true rfl)) Z.p ?_
                    refine zq_aload_n Z d_Law_law_643 3 rfl ?_
                    have hq := zs_C hf
                    clear hf
                    obtain ⟨h222, hf⟩ := hq
                    obtain ⟨fs223, e224⟩ := zs_isS h222
                    have hq := zs_bS hf
                    clear hf
                    obtain ⟨S220, x221, h219, hf⟩ := hq
                    refine zq_contR (zq_stepV Z zq_cf1 (c_Mo_thrown hl h219) 4 rfl e224 d_Law_law_644 m_463 m_465 m_466 m_464 m_286 p_Mo_thrown ⟨(Nat.le_of_ble_eq_true rfl), (Nat.le_of_ble_eq_true rfl), (by show K + 1 ≤ 601024; omega), (by show Q + 6 ≤ 7293034; omega)⟩ rfl (Nat.le_of_ble_eq_true rfl)) Z.p ?_
                    refine zq_iload Z d_Law_law_647 0 rfl ?_
                    refine zq_icmp_eq Z 654 d_Law_law_649 (by decide) (fun q => ?_) (fun q => ?_)
                    · replace hf := zs_T q hf
                      refine zq_goto Z 1055 d_Law_law_654 (by decide) ?_
                      refine zq_sub (lo' := [(0, .ref b), (1, va_rf v1), (2, va_rf (some a211)), (3, va_rf v3), (4, .int v4)]) [1, 2, 3, 4, 5] rfl ?_
                      refine zq_wid (kc' := (K + 8)) (ks' := (Q + 1222)) (by show K + 1 ≤ (K + 8); omega) (by show Q + 6 ≤ (Q + 1222); omega) ?_
                      exact r_Law_law_1055 hl Z hB hK hQ hk23 hf
                    · replace hf := zs_N q hf
                      refine zq_iconst Z (0 : Int32) d_Law_law_652 (by decide) ?_
                      have hq := zs_C hf
                      clear hf
                      obtain ⟨h225, hf⟩ := hq
                      exact zq_zret Z d_Law_law_653 h225 (zs_1 hf) (zs_2 (fun z => (.inl (some (.int z)) : zq_R)) hf) ⟨(by show K + 1 ≤ 601024; omega), (by show Q + 6 ≤ 7293034; omega)⟩
                  · replace hf := zs_N c7 hf
                    by_cases c8 : (x3 &&& (15 : Int32)) = 8
                    · replace hf := zs_T c8 hf
                      refine zq_tabIn (off := 618) Z 657 d_Law_law_39 (by rw [c8]; decide) (by rw [c8]; decide) (by rw [c8]; rfl) (by decide) ?_
                      refine zq_aload_nQ Z d_Law_law_657 1 rfl ?_
                      refine zq_aload_nQ Z d_Law_law_658 3 rfl ?_
                      have hq := zs_bS hf
                      clear hf
                      obtain ⟨S227, x228, h226, hf⟩ := hq
                      refine zq_contR (zq_stepS Z zq_cf2 (c_Law_close hl h226) d_Law_law_659 m_510 m_511 m_512 m_458 p_Law_close ⟨(Nat.le_of_ble_eq_true rfl), (Nat.le_of_ble_eq_true rfl), (by show K + 3 ≤ 601024; omega), (by show Q + 605 ≤ 7293034; omega)⟩ rfl (Nat.le_of_ble_eq_true rfl)) Z.p ?_
                      refine zq_istore Z [(5, .int x228), (0, .ref b), (1, va_rf v1), (2, va_rf v2), (3, va_rf v3), (4, .int v4)] d_Law_law_662 (by decide) rfl ?_
                      refine zq_aload_nQ Z d_Law_law_664 3 rfl ?_
                      have hq := Option.bind_eq_some_iff.mp hf
                      clear hf
                      obtain ⟨a229, h230, hf⟩ := hq
                      subst h230
                      have hq := zs_C hf
                      clear hf
                      obtain ⟨h234, hf⟩ := hq
                      obtain ⟨fs235, e236⟩ := zs_isS h234
                      have hq := zs_bS hf
                      clear hf
                      obtain ⟨S232, x233, h231, hf⟩ := hq
                      refine zq_contR (zq_stepV Z zq_cf1 (c_Mo_close hl h231) 4 rfl e236 d_Law_law_665 m_513 m_515 m_516 m_514 m_286 p_Mo_close ⟨(Nat.le_of_ble_eq_true rfl), (Nat.le_of_ble_eq_true rfl), (by show K + 3 ≤ 601024; omega), (by show Q + 605 ≤ 7293034; omega)⟩ rfl (Nat.le_of_ble_eq_true rfl)) Z.p ?_
                      refine zq_istore Z [(6, .int x233), (5, .int x228), (0, .ref b), (1, va_rf v1), (2, .ref a229), (3, va_rf v3), (4, .int v4)] d_Law_law_668 (by decide) rfl ?_
                      refine zq_aload_n Z d_Law_law_670 4 rfl ?_
                      have hq := zs_C hf
                      clear hf
                      obtain ⟨h240, hf⟩ := hq
                      obtain ⟨fs241, e242⟩ := zs_isS h240
                      have hq := zs_bS hf
                      clear hf
                      obtain ⟨S238, x239, h237, hf⟩ := hq
                      refine zq_contR (zq_stepV Z zq_cf1 (c_Mo_thrown hl h237) 4 rfl e242 d_Law_law_671 m_463 m_465 m_466 m_464 m_286 p_Mo_thrown ⟨(Nat.le_of_ble_eq_true rfl), (Nat.le_of_ble_eq_true rfl), (by show K + 3 ≤ 601024; omega), (by show Q + 605 ≤ 7293034; omega)⟩ rfl (Nat.le_of_ble_eq_true rfl)) Z.p ?_
                      refine zq_iload Z d_Law_law_674 1 rfl ?_
                      refine zq_icmp_eq Z 681 d_Law_law_676 (by decide) (fun q => ?_) (fun q => ?_)
                      · replace hf := zs_T q hf
                        refine zq_iload Z d_Law_law_681 1 rfl ?_
                        refine zq_if_ne Z 698 d_Law_law_683 (by decide) (fun q => ?_) (fun q => ?_)
                        · replace hf := zs_N q hf
                          refine zq_sub (lo' := [(0, .ref b), (1, va_rf v1), (2, va_rf (some a229)), (3, va_rf v3), (4, .int v4)]) [2, 3, 4, 5, 6] rfl ?_
                          refine zq_wid (kc' := (K + 3)) (ks' := (Q + 605)) (by show K + 3 ≤ (K + 3); omega) (by show Q + 605 ≤ (Q + 605); omega) ?_
                          exact r_Law_law_698 hl Z hB hK hQ hk23 hf
                        · replace hf := zs_T q hf
                          refine zq_aload_nQ Z d_Law_law_686 5 rfl ?_
                          refine zq_iconst Z (0 : Int32) d_Law_law_687 (by decide) ?_
                          have hq := Option.bind_eq_some_iff.mp hf
                          clear hf
                          obtain ⟨a243, h244, hf⟩ := hq
                          subst h244
                          have hq := Option.bind_eq_some_iff.mp hf
                          clear hf
                          obtain ⟨x245, h246, hf⟩ := hq
                          refine zr_laload Z 0 (fun _ => rfl) d_Law_law_688 h246 ?_
                          refine zq_iload Z d_Law_law_689 0 rfl ?_
                          refine zq_i2l Z d_Law_law_691 ?_
                          refine zq_lcmp Z d_Law_law_692 ?_
                          refine zq_if_eq Z 698 d_Law_law_693 (by decide) (fun q => ?_) (fun q => ?_)
                          · replace hf := zs_T q hf
                            refine zq_sub (lo' := [(0, .ref b), (1, va_rf v1), (2, va_rf (some a229)), (3, va_rf (some a243)), (4, .int v4)]) [2, 3, 4, 5, 6] rfl ?_
                            refine zq_wid (kc' := (K + 3)) (ks' := (Q + 605)) (by show K + 3 ≤ (K + 3); omega) (by show Q + 605 ≤ (Q + 605); omega) ?_
                            exact r_Law_law_698 hl Z hB hK hQ hk23 hf
                          · replace hf := zs_N q hf
                            refine zq_iconst Z (0 : Int32) d_Law_law_696 (by decide) ?_
                            have hq := zs_C hf
                            clear hf
                            obtain ⟨h247, hf⟩ := hq
                            exact zq_zret Z d_Law_law_697 h247 (zs_1 hf) (zs_2 (fun z => (.inl (some (.int z)) : zq_R)) hf) ⟨(by show K + 3 ≤ 601024; omega), (by show Q + 605 ≤ 7293034; omega)⟩
                      · replace hf := zs_N q hf
                        refine zq_iconst Z (0 : Int32) d_Law_law_679 (by decide) ?_
                        have hq := zs_C hf
                        clear hf
                        obtain ⟨h248, hf⟩ := hq
                        exact zq_zret Z d_Law_law_680 h248 (zs_1 hf) (zs_2 (fun z => (.inl (some (.int z)) : zq_R)) hf) ⟨(by show K + 3 ≤ 601024; omega), (by show Q + 605 ≤ 7293034; omega)⟩
                    · replace hf := zs_N c8 hf
                      by_cases c9 : (x3 &&& (15 : Int32)) = 9
                      · replace hf := zs_T c9 hf
                        refine zq_tabIn (off := 662) Z 701 d_Law_law_39 (by rw [c9]; decide) (by rw [c9]; decide) (by rw [c9]; rfl) (by decide) ?_
                        refine zq_aload_nQ Z d_Law_law_701 1 rfl ?_
                        refine zq_aload_nQ Z d_Law_law_702 3 rfl ?_
                        have hq := zs_bS hf
                        clear hf
                        obtain ⟨S250, x251, h249, hf⟩ := hq
                        refine zq_contR (zq_stepS Z zq_cf2 (c_Law_undo hl h249) d_Law_law_703 m_517 m_518 m_519 m_458 p_Law_undo ⟨(Nat.le_of_ble_eq_true rfl), (Nat.le_of_ble_eq_true rfl), (by show K + 1 ≤ 601024; omega), (by show Q + 6 ≤ 7293034; omega)⟩ rfl (Nat.le_of_ble_eq_true rfl)) Z.p ?_
                        refine zq_istore Z [(5, .int x251), (0, .ref b), (1, va_rf v1), (2, va_rf v2), (3, va_rf v3), (4, .int v4)] d_Law_law_706 (by decide) rfl ?_
                        refine zq_aload_nQ Z d_Law_law_708 3 rfl ?_
                        have hq := Option.bind_eq_some_iff.mp hf
                        clear hf
                        obtain ⟨a252, h253, hf⟩ := hq
                        subst h253
                        have hq := zs_C hf
                        clear hf
                        obtain ⟨h257, hf⟩ := hq
                        obtain ⟨fs258, e259⟩ := zs_isS h257
                        have hq := zs_bS hf
                        clear hf
                        obtain ⟨S255, x256, h254, hf⟩ := hq
                        refine zq_contR (zq_stepV Z zq_cf1 (c_Mo_undo hl h254) 4 rfl e259 d_Law_law_709 m_520 m_522 m_523 m_521 m_286 p_Mo_undo ⟨(Nat.le_of_ble_eq_true rfl), (Nat.le_of_ble_eq_true rfl), (by show K + 1 ≤ 601024; omega), (by show Q + 6 ≤ 7293034; omega)⟩ rfl (Nat.le_of_ble_eq_true rfl)) Z.p ?_
                        refine zq_istore Z [(6, .int x256), (5, .int x251), (0, .ref b), (1, va_rf v1), (2, .ref a252), (3, va_rf v3), (4, .int v4)] d_Law_law_712 (by decide) rfl ?_
                        refine zq_aload_n Z d_Law_law_714 4 rfl ?_
                        have hq := zs_C hf
                        clear hf
                        obtain ⟨h263, hf⟩ := hq
                        obtain ⟨fs264, e265⟩ := zs_isS h263
                        have hq := zs_bS hf
                        clear hf
                        obtain ⟨S261, x262, h260, hf⟩ := hq
                        refine zq_contR (zq_stepV Z zq_cf1 (c_Mo_thrown hl h260) 4 rfl e265 d_Law_law_715 m_463 m_465 m_466 m_464 m_286 p_Mo_thrown ⟨(Nat.le_of_ble_eq_true rfl), (Nat.le_of_ble_eq_true rfl), (by show K + 1 ≤ 601024; omega), (by show Q + 6 ≤ 7293034; omega)⟩ rfl (Nat.le_of_ble_eq_true rfl)) Z.p ?_
                        refine zq_iload Z d_Law_law_718 1 rfl ?_
                        refine zq_icmp_eq Z 725 d_Law_law_720 (by decide) (fun q => ?_) (fun q => ?_)
                        · replace hf := zs_T q hf
                          refine zq_iload Z d_Law_law_725 1 rfl ?_
                          refine zq_if_ne Z 742 d_Law_law_727 (by decide) (fun q => ?_) (fun q => ?_)
                          · replace hf := zs_N q hf
                            refine zq_sub (lo' := [(0, .ref b), (1, va_rf v1), (2, va_rf (some a252)), (3, va_rf v3), (4, .int v4)]) [2, 3, 4, 5, 6] rfl ?_
                            refine zq_wid (kc' := (K + 1)) (ks' := (Q + 6)) (by show K + 1 ≤ (K + 1); omega) (by show Q + 6 ≤ (Q + 6); omega) ?_
                            exact r_Law_law_742 hl Z hB hK hQ hk23 hf
                          · replace hf := zs_T q hf
                            refine zq_aload_nQ Z d_Law_law_730 5 rfl ?_
                            refine zq_iconst Z (0 : Int32) d_Law_law_731 (by decide) ?_
                            have hq := Option.bind_eq_some_iff.mp hf
                            clear hf
                            obtain ⟨a266, h267, hf⟩ := hq
                            subst h267
                            have hq := Option.bind_eq_some_iff.mp hf
                            clear hf
                            obtain ⟨x268, h269, hf⟩ := hq
                            refine zr_laload Z 0 (fun _ => rfl) d_Law_law_732 h269 ?_
                            refine zq_iload Z d_Law_law_733 0 rfl ?_
                            refine zq_i2l Z d_Law_law_735 ?_
                            refine zq_lcmp Z d_Law_law_736 ?_
                            refine zq_if_eq Z 742 d_Law_law_737 (by decide) (fun q => ?_) (fun q => ?_)
                            · replace hf := zs_T q hf
                              refine zq_sub (lo' := [(0, .ref b), (1, va_rf v1), (2, va_rf (some a252)), (3, va_rf (some a266)), (4, .int v4)]) [2, 3, 4, 5, 6] rfl ?_
                              refine zq_wid (kc' := (K + 1)) (ks' := (Q + 6)) (by show K + 1 ≤ (K + 1); omega) (by show Q + 6 ≤ (Q + 6); omega) ?_
                              exact r_Law_law_742 hl Z hB hK hQ hk23 hf
                            · replace hf := zs_N q hf
                              refine zq_iconst Z (0 : Int32) d_Law_law_740 (by decide) ?_
                              have hq := zs_C hf
                              clear hf
                              obtain ⟨h270, hf⟩ := hq
                              exact zq_zret Z d_Law_law_741 h270 (zs_1 hf) (zs_2 (fun z => (.inl (some (.int z)) : zq_R)) hf) ⟨(by show K + 1 ≤ 601024; omega), (by show Q + 6 ≤ 7293034; omega)⟩
                        · replace hf := zs_N q hf
                          refine zq_iconst Z (0 : Int32) d_Law_law_723 (by decide) ?_
                          have hq := zs_C hf
                          clear hf
                          obtain ⟨h271, hf⟩ := hq
                          exact zq_zret Z d_Law_law_724 h271 (zs_1 hf) (zs_2 (fun z => (.inl (some (.int z)) : zq_R)) hf) ⟨(by show K + 1 ≤ 601024; omega), (by show Q + 6 ≤ 7293034; omega)⟩
                      · replace hf := zs_N c9 hf
                        by_cases c10 : (x3 &&& (15 : Int32)) = 10
                        · replace hf := zs_T c10 hf
                          refine zq_tabIn (off := 706) Z 745 d_Law_law_39 (by rw [c10]; decide) (by rw [c10]; decide) (by rw [c10]; rfl) (by decide) ?_
                          refine zq_aload_nQ Z d_Law_law_745 1 rfl ?_
                          refine zq_aload_nQ Z d_Law_law_746 3 rfl ?_
                          have hq := zs_bS hf
                          clear hf
                          obtain ⟨S273, x274, h272, hf⟩ := hq
                          refine zq_contR (zq_stepS Z zq_cf2 (c_Law_redo hl h272) d_Law_law_747 m_524 m_525 m_526 m_458 p_Law_redo ⟨(Nat.le_of_ble_eq_true rfl), (Nat.le_of_ble_eq_true rfl), (by show K + 1 ≤ 601024; omega), (by show Q + 6 ≤ 7293034; omega)⟩ rfl (Nat.le_of_ble_eq_true rfl)) Z.p ?_
                          refine zq_istore Z [(5, .int x274), (0, .ref b), (1, va_rf v1), (2, va_rf v2), (3, va_rf v3), (4, .int v4)] d_Law_law_750 (by decide) rfl ?_
                          refine zq_aload_nQ Z d_Law_law_752 3 rfl ?_
                          have hq := Option.bind_eq_some_iff.mp hf
                          clear hf
                          obtain ⟨a275, h276, hf⟩ := hq
                          subst h276
                          have hq := zs_C hf
                          clear hf
                          obtain ⟨h280, hf⟩ := hq
                          obtain ⟨fs281, e282⟩ := zs_isS h280
                          have hq := zs_bS hf
                          clear hf
                          obtain ⟨S278, x279, h277, hf⟩ := hq
                          refine zq_contR (zq_stepV Z zq_cf1 (c_Mo_redo hl h277) 4 rfl e282 d_Law_law_753 m_527 m_529 m_530 m_528 m_286 p_Mo_redo ⟨(Nat.le_of_ble_eq_true rfl), (Nat.le_of_ble_eq_true rfl), (by show K + 1 ≤ 601024; omega), (by show Q + 6 ≤ 7293034; omega)⟩ rfl (Nat.le_of_ble_eq_true rfl)) Z.p ?_
                          refine zq_istore Z [(6, .int x279), (5, .int x274), (0, .ref b), (1, va_rf v1), (2, .ref a275), (3, va_rf v3), (4, .int v4)] d_Law_law_756 (by decide) rfl ?_
                          refine zq_aload_n Z d_Law_law_758 4 rfl ?_
                          have hq := zs_C hf
                          clear hf
                          obtain ⟨h286, hf⟩ := hq
                          obtain ⟨fs287, e288⟩ := zs_isS h286
                          have hq := zs_bS hf
                          clear hf
                          obtain ⟨S284, x285, h283, hf⟩ := hq
                          refine zq_contR (zq_stepV Z zq_cf1 (c_Mo_thrown hl h283) 4 rfl e288 d_Law_law_759 m_463 m_465 m_466 m_464 m_286 p_Mo_thrown ⟨(Nat.le_of_ble_eq_true rfl), (Nat.le_of_ble_eq_true rfl), (by show K + 1 ≤ 601024; omega), (by show Q + 6 ≤ 7293034; omega)⟩ rfl (Nat.le_of_ble_eq_true rfl)) Z.p ?_
                          refine zq_iload Z d_Law_law_762 1 rfl ?_
                          refine zq_icmp_eq Z 769 d_Law_law_764 (by decide) (fun q => ?_) (fun q => ?_)
                          · replace hf := zs_T q hf
                            refine zq_iload Z d_Law_law_769 1 rfl ?_
                            refine zq_if_ne Z 786 d_Law_law_771 (by decide) (fun q => ?_) (fun q => ?_)
                            · replace hf := zs_N q hf
                              refine zq_sub (lo' := [(0, .ref b), (1, va_rf v1), (2, va_rf (some a275)), (3, va_rf v3), (4, .int v4)]) [2, 3, 4, 5, 6] rfl ?_
                              refine zq_wid (kc' := (K + 1)) (ks' := (Q + 6)) (by show K + 1 ≤ (K + 1); omega) (by show Q + 6 ≤ (Q + 6); omega) ?_
                              exact r_Law_law_786 hl Z hB hK hQ hk23 hf
                            · replace hf := zs_T q hf
                              refine zq_aload_nQ Z d_Law_law_774 5 rfl ?_
                              refine zq_iconst Z (0 : Int32) d_Law_law_775 (by decide) ?_
                              have hq := Option.bind_eq_some_iff.mp hf
                              clear hf
                              obtain ⟨a289, h290, hf⟩ := hq
                              subst h290
                              have hq := Option.bind_eq_some_iff.mp hf
                              clear hf
                              obtain ⟨x291, h292, hf⟩ := hq
                              refine zr_laload Z 0 (fun _ => rfl) d_Law_law_776 h292 ?_
                              refine zq_iload Z d_Law_law_777 0 rfl ?_
                              refine zq_i2l Z d_Law_law_779 ?_
                              refine zq_lcmp Z d_Law_law_780 ?_
                              refine zq_if_eq Z 786 d_Law_law_781 (by decide) (fun q => ?_) (fun q => ?_)
                              · replace hf := zs_T q hf
                                refine zq_sub (lo' := [(0, .ref b), (1, va_rf v1), (2, va_rf (some a275)), (3, va_rf (some a289)), (4, .int v4)]) [2, 3, 4, 5, 6] rfl ?_
                                refine zq_wid (kc' := (K + 1)) (ks' := (Q + 6)) (by show K + 1 ≤ (K + 1); omega) (by show Q + 6 ≤ (Q + 6); omega) ?_
                                exact r_Law_law_786 hl Z hB hK hQ hk23 hf
                              · replace hf := zs_N q hf
                                refine zq_iconst Z (0 : Int32) d_Law_law_784 (by decide) ?_
                                have hq := zs_C hf
                                clear hf
                                obtain ⟨h293, hf⟩ := hq
                                exact zq_zret Z d_Law_law_785 h293 (zs_1 hf) (zs_2 (fun z => (.inl (some (.int z)) : zq_R)) hf) ⟨(by show K + 1 ≤ 601024; omega), (by show Q + 6 ≤ 7293034; omega)⟩
                          · replace hf := zs_N q hf
                            refine zq_iconst Z (0 : Int32) d_Law_law_767 (by decide) ?_
                            have hq := zs_C hf
                            clear hf
                            obtain ⟨h294, hf⟩ := hq
                            exact zq_zret Z d_Law_law_768 h294 (zs_1 hf) (zs_2 (fun z => (.inl (some (.int z)) : zq_R)) hf) ⟨(by show K + 1 ≤ 601024; omega), (by show Q + 6 ≤ 7293034; omega)⟩
                        · replace hf := zs_N c10 hf
                          by_cases c11 : (x3 &&& (15 : Int32)) = 11
                          · replace hf := zs_T c11 hf
                            refine zq_tabIn (off := 750) Z 789 d_Law_law_39 (by rw [c11]; decide) (by rw [c11]; decide) (by rw [c11]; rfl) (by decide) ?_
                            refine zq_aload_nQ Z d_Law_law_789 1 rfl ?_
                            refine zq_aload_n Z d_Law_law_790 0 rfl ?_
                            refine zq_iload Z d_Law_law_791 4 rfl ?_
                            refine zq_iconst Z (1 : Int32) d_Law_law_793 (by decide) ?_
                            refine zq_iadd Z d_Law_law_794 ?_
                            have hq := Option.bind_eq_some_iff.mp hf
                            clear hf
                            obtain ⟨x296, h295, hf⟩ := hq
                            refine zl_sldR Z hB d_Law_law_795 h295 ?_
                            have hq := Option.bind_eq_some_iff.mp hf
                            clear hf
                            obtain ⟨a297, h298, hf⟩ := hq
                            subst h298
                            have hq := zs_C hf
                            clear hf
                            obtain ⟨h302, hf⟩ := hq
                            obtain ⟨fs303, e304⟩ := zs_isS h302
                            have hq := zs_bS hf
                            clear hf
                            obtain ⟨S300, x301, h299, hf⟩ := hq
                            refine zq_contR (zq_stepV Z zq_cf1 (c_CT_length hl h299) 3 rfl e304 d_Law_law_796 m_531 m_533 m_534 m_532 m_108 p_CT_length ⟨(Nat.le_of_ble_eq_true rfl), (Nat.le_of_ble_eq_true rfl), (by show K ≤ 601024; omega), (by show Q ≤ 7293034; omega)⟩ rfl (Nat.le_of_ble_eq_true rfl)) Z.p ?_
                            refine zq_aload_nQ Z d_Law_law_799 2 rfl ?_
                            refine zq_aload_n Z d_Law_law_800 0 rfl ?_
                            refine zq_iload Z d_Law_law_801 4 rfl ?_
                            refine zq_iconst Z (1 : Int32) d_Law_law_803 (by decide) ?_
                            refine zq_iadd Z d_Law_law_804 ?_
                            have hq := Option.bind_eq_some_iff.mp hf
                            clear hf
                            obtain ⟨x306, h305, hf⟩ := hq
                            refine zl_sldR Z hB d_Law_law_805 h305 ?_
                            have hq := Option.bind_eq_some_iff.mp hf
                            clear hf
                            obtain ⟨a307, h308, hf⟩ := hq
                            subst h308
                            have hq := zs_C hf
                            clear hf
                            obtain ⟨h312, hf⟩ := hq
                            obtain ⟨fs313, e314⟩ := zs_isS h312
                            have hq := zs_bS hf
                            clear hf
                            obtain ⟨S310, x311, h309, hf⟩ := hq
                            refine zq_contR (zq_stepV Z zq_cf1 (c_Mo_length hl h309) 4 rfl e314 d_Law_law_806 m_535 m_537 m_538 m_536 m_286 p_Mo_length ⟨(Nat.le_of_ble_eq_true rfl), (Nat.le_of_ble_eq_true rfl), (by show K ≤ 601024; omega), (by show Q ≤ 7293034; omega)⟩ rfl (Nat.le_of_ble_eq_true rfl)) Z.p ?_
                            refine zq_icmp_eq Z 1055 d_Law_law_809 (by decide) (fun q => ?_) (fun q => ?_)
                            · replace hf := zs_T q hf
                              refine zq_sub (lo' := [(0, .ref b), (1, va_rf (some a297)), (2, va_rf (some a307)), (3, va_rf v3), (4, .int v4)]) [0, 1, 2, 3, 4] rfl ?_
                              refine zq_wid (kc' := (K + 8)) (ks' := (Q + 1222)) (by show K ≤ (K + 8); omega) (by show Q ≤ (Q + 1222); omega) ?_
                              exact r_Law_law_1055 hl Z hB hK hQ hk23 hf
                            · replace hf := zs_N q hf
                              refine zq_iconst Z (0 : Int32) d_Law_law_812 (by decide) ?_
                              have hq := zs_C hf
                              clear hf
                              obtain ⟨h315, hf⟩ := hq
                              exact zq_zret Z d_Law_law_813 h315 (zs_1 hf) (zs_2 (fun z => (.inl (some (.int z)) : zq_R)) hf) ⟨(by show K ≤ 601024; omega), (by show Q ≤ 7293034; omega)⟩
                          · replace hf := zs_N c11 hf
                            by_cases c12 : (x3 &&& (15 : Int32)) = 12
                            · replace hf := zs_T c12 hf
                              refine zq_tabIn (off := 775) Z 814 d_Law_law_39 (by rw [c12]; decide) (by rw [c12]; decide) (by rw [c12]; rfl) (by decide) ?_
                              refine zq_aload_nQ Z d_Law_law_814 1 rfl ?_
                              refine zq_aload_n Z d_Law_law_815 0 rfl ?_
                              refine zq_iload Z d_Law_law_816 4 rfl ?_
                              refine zq_iconst Z (1 : Int32) d_Law_law_818 (by decide) ?_
                              refine zq_iadd Z d_Law_law_819 ?_
                              have hq := Option.bind_eq_some_iff.mp hf
                              clear hf
                              obtain ⟨x317, h316, hf⟩ := hq
                              refine zl_sldR Z hB d_Law_law_820 h316 ?_
                              refine zq_aload_n Z d_Law_law_821 0 rfl ?_
                              refine zq_iload Z d_Law_law_822 4 rfl ?_
                              refine zq_iconst Z (2 : Int32) d_Law_law_824 (by decide) ?_
                              refine zq_iadd Z d_Law_law_825 ?_
                              have hq := Option.bind_eq_some_iff.mp hf
                              clear hf
                              obtain ⟨x319, h318, hf⟩ := hq
                              refine zl_sldR Z hB d_Law_law_826 h318 ?_
                              refine zq_aload_n Z d_Law_law_827 0 rfl ?_
                              refine zq_iload Z d_Law_law_828 4 rfl ?_
                              refine zq_iconst Z (3 : Int32) d_Law_law_830 (by decide) ?_
                              refine zq_iadd Z d_Law_law_831 ?_
                              have hq := Option.bind_eq_some_iff.mp hf
                              clear hf
                              obtain ⟨x321, h320, hf⟩ := hq
                              refine zl_sldR Z hB d_Law_law_832 h320 ?_
                              refine zq_aload_nQ Z d_Law_law_833 3 rfl ?_
                              have hq := zs_bS hf
                              clear hf
                              obtain ⟨S323, x324, h322, hf⟩ := hq
                              refine zq_contR (zq_stepS Z zq_cf2 (c_Law_seen hl h322) d_Law_law_834 m_539 m_540 m_541 m_458 p_Law_seen ⟨(Nat.le_of_ble_eq_true rfl), (Nat.le_of_ble_eq_true rfl), (by show K + 1 ≤ 601024; omega), (by show Q + 6 ≤ 7293034; omega)⟩ rfl (Nat.le_of_ble_eq_true rfl)) Z.p ?_
                              refine zq_istore Z [(5, .int x324), (0, .ref b), (1, va_rf v1), (2, va_rf v2), (3, va_rf v3), (4, .int v4)] d_Law_law_837 (by decide) rfl ?_
                              refine zq_aload_nQ Z d_Law_law_839 3 rfl ?_
                              refine zq_aload_n Z d_Law_law_840 1 rfl ?_
                              refine zq_iload Z d_Law_law_841 5 rfl ?_
                              refine zq_iconst Z (1 : Int32) d_Law_law_843 (by decide) ?_
                              refine zq_iadd Z d_Law_law_844 ?_
                              have hq := Option.bind_eq_some_iff.mp hf
                              clear hf
                              obtain ⟨x326, h325, hf⟩ := hq
                              refine zl_sldR Z hB d_Law_law_845 h325 ?_
                              refine zq_aload_n Z d_Law_law_846 1 rfl ?_
                              refine zq_iload Z d_Law_law_847 5 rfl ?_
                              refine zq_iconst Z (2 : Int32) d_Law_law_849 (by decide) ?_
                              refine zq_iadd Z d_Law_law_850 ?_
                              have hq := Option.bind_eq_some_iff.mp hf
                              clear hf
                              obtain ⟨x328, h327, hf⟩ := hq
                              refine zl_sldR Z hB d_Law_law_851 h327 ?_
                              refine zq_aload_n Z d_Law_law_852 1 rfl ?_
                              refine zq_iload Z d_Law_law_853 5 rfl ?_
                              refine zq_iconst Z (3 : Int32) d_Law_law_855 (by decide) ?_
                              refine zq_iadd Z d_Law_law_856 ?_
                              have hq := Option.bind_eq_some_iff.mp hf
                              clear hf
                              obtain ⟨x330, h329, hf⟩ := hq
                              refine zl_sldR Z hB d_Law_law_857 h329 ?_
                              have hq := Option.bind_eq_some_iff.mp hf
                              clear hf
                              obtain ⟨a331, h332, hf⟩ := hq
                              subst h332
                              have hq := zs_C hf
                              clear hf
                              obtain ⟨h336, hf⟩ := hq
                              obtain ⟨fs337, e338⟩ := zs_isS h336
                              have hq := zs_bS hf
                              clear hf
                              obtain ⟨S334, x335, h333, hf⟩ := hq
                              refine zq_contR (zq_stepV Z zq_cf1 (c_Mo_seen hl h333) 4 rfl e338 d_Law_law_858 m_542 m_544 m_545 m_543 m_286 p_Mo_seen ⟨(Nat.le_of_ble_eq_true rfl), (Nat.le_of_ble_eq_true rfl), (by show K + 1 ≤ 601024; omega), (by show Q + 6 ≤ 7293034; omega)⟩ rfl (Nat.le_of_ble_eq_true rfl)) Z.p ?_
                              refine zq_istore Z [(6, .int x335), (5, .int x324), (0, .ref b), (1, va_rf v1), (2, .ref a331), (3, va_rf v3), (4, .int v4)] d_Law_law_861 (by decide) rfl ?_
                              refine zq_aload_n Z d_Law_law_863 4 rfl ?_
                              have hq := zs_C hf
                              clear hf
                              obtain ⟨h342, hf⟩ := hq
                              obtain ⟨fs343, e344⟩ := zs_isS h342
                              have hq := zs_bS hf
                              clear hf
                              obtain ⟨S340, x341, h339, hf⟩ := hq
                              refine zq_contR (zq_stepV Z zq_cf1 (c_Mo_thrown hl h339) 4 rfl e344 d_Law_law_864 m_463 m_465 m_466 m_464 m_286 p_Mo_thrown ⟨(Nat.le_of_ble_eq_true rfl), (Nat.le_of_ble_eq_true rfl), (by show K + 1 ≤ 601024; omega), (by show Q + 6 ≤ 7293034; omega)⟩ rfl (Nat.le_of_ble_eq_true rfl)) Z.p ?_
                              refine zq_iload Z d_Law_law_867 1 rfl ?_
                              refine zq_icmp_eq Z 874 d_Law_law_869 (by decide) (fun q => ?_) (fun q => ?_)
                              · replace hf := zs_T q hf
                                refine zq_iload Z d_Law_law_874 1 rfl ?_
                                refine zq_if_ne Z 891 d_Law_law_876 (by decide) (fun q => ?_) (fun q => ?_)
                                · replace hf := zs_N q hf
                                  refine zq_sub (lo' := [(0, .ref b), (1, va_rf v1), (2, va_rf (some a331)), (3, va_rf v3), (4, .int v4)]) [2, 3, 4, 5, 6] rfl ?_
                                  refine zq_wid (kc' := (K + 1)) (ks' := (Q + 6)) (by show K + 1 ≤ (K + 1); omega) (by show Q + 6 ≤ (Q + 6); omega) ?_
                                  exact r_Law_law_891 hl Z hB hK hQ hk23 hf
                                · replace hf := zs_T q hf
                                  refine zq_aload_nQ Z d_Law_law_879 5 rfl ?_
                                  refine zq_iconst Z (0 : Int32) d_Law_law_880 (by decide) ?_
                                  have hq := Option.bind_eq_some_iff.mp hf
                                  clear hf
                                  obtain ⟨a345, h346, hf⟩ := hq
                                  subst h346
                                  have hq := Option.bind_eq_some_iff.mp hf
                                  clear hf
                                  obtain ⟨x347, h348, hf⟩ := hq
                                  refine zr_laload Z 0 (fun _ => rfl) d_Law_law_881 h348 ?_
                                  refine zq_iload Z d_Law_law_882 0 rfl ?_
                                  refine zq_i2l Z d_Law_law_884 ?_
                                  refine zq_lcmp Z d_Law_law_885 ?_
                                  refine zq_if_eq Z 891 d_Law_law_886 (by decide) (fun q => ?_) (fun q => ?_)
                                  · replace hf := zs_T q hf
                                    refine zq_sub (lo' := [(0, .ref b), (1, va_rf v1), (2, va_rf (some a331)), (3, va_rf (some a345)), (4, .int v4)]) [2, 3, 4, 5, 6] rfl ?_
                                    refine zq_wid (kc' := (K + 1)) (ks' := (Q + 6)) (by show K + 1 ≤ (K + 1); omega) (by show Q + 6 ≤ (Q + 6); omega) ?_
                                    exact r_Law_law_891 hl Z hB hK hQ hk23 hf
                                  · replace hf := zs_N q hf
                                    refine zq_iconst Z (0 : Int32) d_Law_law_889 (by decide) ?_
                                    have hq := zs_C hf
                                    clear hf
                                    obtain ⟨h349, hf⟩ := hq
                                    exact zq_zret Z d_Law_law_890 h349 (zs_1 hf) (zs_2 (fun z => (.inl (some (.int z)) : zq_R)) hf) ⟨(by show K + 1 ≤ 601024; omega), (by show Q + 6 ≤ 7293034; omega)⟩
                              · replace hf := zs_N q hf
                                refine zq_iconst Z (0 : Int32) d_Law_law_872 (by decide) ?_
                                have hq := zs_C hf
                                clear hf
                                obtain ⟨h350, hf⟩ := hq
                                exact zq_zret Z d_Law_law_873 h350 (zs_1 hf) (zs_2 (fun z => (.inl (some (.int z)) : zq_R)) hf) ⟨(by show K + 1 ≤ 601024; omega), (by show Q + 6 ≤ 7293034; omega)⟩
                            · replace hf := zs_N c12 hf
                              by_cases c13 : (x3 &&& (15 : Int32)) = 13
                              · replace hf := zs_T c13 hf
                                refine zq_tabIn (off := 855) Z 894 d_Law_law_39 (by rw [c13]; decide) (by rw [c13]; decide) (by rw [c13]; rfl) (by decide) ?_
                                refine zq_aload_nQ Z d_Law_law_894 1 rfl ?_
                                refine zq_aload_n Z d_Law_law_895 0 rfl ?_
                                refine zq_iload Z d_Law_law_896 4 rfl ?_
                                refine zq_iconst Z (1 : Int32) d_Law_law_898 (by decide) ?_
                                refine zq_iadd Z d_Law_law_899 ?_
                                have hq := Option.bind_eq_some_iff.mp hf
                                clear hf
                                obtain ⟨x352, h351, hf⟩ := hq
                                refine zl_sldR Z hB d_Law_law_900 h351 ?_
                                refine zq_aload_n Z d_Law_law_901 0 rfl ?_
                                refine zq_iload Z d_Law_law_902 4 rfl ?_
                                refine zq_iconst Z (2 : Int32) d_Law_law_904 (by decide) ?_
                                refine zq_iadd Z d_Law_law_905 ?_
                                have hq := Option.bind_eq_some_iff.mp hf
                                clear hf
                                obtain ⟨x354, h353, hf⟩ := hq
                                refine zl_sldR Z hB d_Law_law_906 h353 ?_
                                refine zq_aload_nQ Z d_Law_law_907 3 rfl ?_
                                have hq := zs_bS hf
                                clear hf
                                obtain ⟨S356, x357, h355, hf⟩ := hq
                                refine zq_contR (zq_stepS Z zq_cf2 (c_Law_mark hl h355) d_Law_law_908 m_546 m_547 m_548 m_458 p_Law_mark ⟨(Nat.le_of_ble_eq_true rfl), (Nat.le_of_ble_eq_true rfl), (by show K + 2 ≤ 601024; omega), (by show Q + 12 ≤ 7293034; omega)⟩ rfl (Nat.le_of_ble_eq_true rfl)) Z.p ?_
                                refine zq_istore Z [(5, .int x357), (0, .ref b), (1, va_rf v1), (2, va_rf v2), (3, va_rf v3), (4, .int v4)] d_Law_law_911 (by decide) rfl ?_
                                refine zq_aload_nQ Z d_Law_law_913 3 rfl ?_
                                refine zq_aload_n Z d_Law_law_914 1 rfl ?_
                                refine zq_iload Z d_Law_law_915 5 rfl ?_
                                refine zq_iconst Z (1 : Int32) d_Law_law_917 (by decide) ?_
                                refine zq_iadd Z d_Law_law_918 ?_
                                have hq := Option.bind_eq_some_iff.mp hf
                                clear hf
                                obtain ⟨x359, h358, hf⟩ := hq
                                refine zl_sldR Z hB d_Law_law_919 h358 ?_
                                refine zq_aload_n Z d_Law_law_920 1 rfl ?_
                                refine zq_iload Z d_Law_law_921 5 rfl ?_
                                refine zq_iconst Z (2 : Int32) d_Law_law_923 (by decide) ?_
                                refine zq_iadd Z d_Law_law_924 ?_
                                have hq := Option.bind_eq_some_iff.mp hf
                                clear hf
                                obtain ⟨x361, h360, hf⟩ := hq
                                refine zl_sldR Z hB d_Law_law_925 h360 ?_
                                have hq := Option.bind_eq_some_iff.mp hf
                                clear hf
                                obtain ⟨a362, h363, hf⟩ := hq
                                subst h363
                                have hq := zs_C hf
                                clear hf
                                obtain ⟨h367, hf⟩ := hq
                                obtain ⟨fs368, e369⟩ := zs_isS h367
                                have hq := zs_bS hf
                                clear hf
                                obtain ⟨S365, x366, h364, hf⟩ := hq
                                refine zq_contR (zq_stepV Z zq_cf1 (c_Mo_mark hl h364) 4 rfl e369 d_Law_law_926 m_549 m_551 m_552 m_550 m_286 p_Mo_mark ⟨(Nat.le_of_ble_eq_true rfl), (Nat.le_of_ble_eq_true rfl), (by show K + 2 ≤ 601024; omega), (by show Q + 12 ≤ 7293034; omega)⟩ rfl (Nat.le_of_ble_eq_true rfl)) Z.p ?_
                                refine zq_istore Z [(6, .int x366), (5, .int x357), (0, .ref b), (1, va_rf v1), (2, .ref a362), (3, va_rf v3), (4, .int v4)] d_Law_law_929 (by decide) rfl ?_
                                refine zq_aload_n Z d_Law_law_931 4 rfl ?_
                                have hq := zs_C hf
                                clear hf
                                obtain ⟨h373, hf⟩ := hq
                                obtain ⟨fs374, e375⟩ := zs_isS h373
                                have hq := zs_bS hf
                                clear hf
                                obtain ⟨S371, x372, h370, hf⟩ := hq
                                refine zq_contR (zq_stepV Z zq_cf1 (c_Mo_thrown hl h370) 4 rfl e375 d_Law_law_932 m_463 m_465 m_466 m_464 m_286 p_Mo_thrown ⟨(Nat.le_of_ble_eq_true rfl), (Nat.le_of_ble_eq_true rfl), (by show K + 2 ≤ 601024; omega), (by show Q + 12 ≤ 7293034; omega)⟩ rfl (Nat.le_of_ble_eq_true rfl)) Z.p ?_
                                refine zq_iload Z d_Law_law_935 1 rfl ?_
                                refine zq_icmp_eq Z 942 d_Law_law_937 (by decide) (fun q => ?_) (fun q => ?_)
                                · replace hf := zs_T q hf
                                  refine zq_iload Z d_Law_law_942 1 rfl ?_
                                  refine zq_if_ne Z 959 d_Law_law_944 (by decide) (fun q => ?_) (fun q => ?_)
                                  · replace hf := zs_N q hf
                                    refine zq_sub (lo' := [(0, .ref b), (1, va_rf v1), (2, va_rf (some a362)), (3, va_rf v3), (4, .int v4)]) [2, 3, 4, 5, 6] rfl ?_
                                    refine zq_wid (kc' := (K + 2)) (ks' := (Q + 12)) (by show K + 2 ≤ (K + 2); omega) (by show Q + 12 ≤ (Q + 12); omega) ?_
                                    exact r_Law_law_959 hl Z hB hK hQ hk23 hf
                                  · replace hf := zs_T q hf
                                    refine zq_aload_nQ Z d_Law_law_947 5 rfl ?_
                                    refine zq_iconst Z (0 : Int32) d_Law_law_948 (by decide) ?_
                                    have hq := Option.bind_eq_some_iff.mp hf
                                    clear hf
                                    obtain ⟨a376, h377, hf⟩ := hq
                                    subst h377
                                    have hq := Option.bind_eq_some_iff.mp hf
                                    clear hf
                                    obtain ⟨x378, h379, hf⟩ := hq
                                    refine zr_laload Z 0 (fun _ => rfl) d_Law_law_949 h379 ?_
                                    refine zq_iload Z d_Law_law_950 0 rfl ?_
                                    refine zq_i2l Z d_Law_law_952 ?_
                                    refine zq_lcmp Z d_Law_law_953 ?_
                                    refine zq_if_eq Z 959 d_Law_law_954 (by decide) (fun q => ?_) (fun q => ?_)
                                    · replace hf := zs_T q hf
                                      refine zq_sub (lo' := [(0, .ref b), (1, va_rf v1), (2, va_rf (some a362)), (3, va_rf (some a376)), (4, .int v4)]) [2, 3, 4, 5, 6] rfl ?_
                                      refine zq_wid (kc' := (K + 2)) (ks' := (Q + 12)) (by show K + 2 ≤ (K + 2); omega) (by show Q + 12 ≤ (Q + 12); omega) ?_
                                      exact r_Law_law_959 hl Z hB hK hQ hk23 hf
                                    · replace hf := zs_N q hf
                                      refine zq_iconst Z (0 : Int32) d_Law_law_957 (by decide) ?_
                                      have hq := zs_C hf
                                      clear hf
                                      obtain ⟨h380, hf⟩ := hq
                                      exact zq_zret Z d_Law_law_958 h380 (zs_1 hf) (zs_2 (fun z => (.inl (some (.int z)) : zq_R)) hf) ⟨(by show K + 2 ≤ 601024; omega), (by show Q + 12 ≤ 7293034; omega)⟩
                                · replace hf := zs_N q hf
                                  refine zq_iconst Z (0 : Int32) d_Law_law_940 (by decide) ?_
                                  have hq := zs_C hf
                                  clear hf
                                  obtain ⟨h381, hf⟩ := hq
                                  exact zq_zret Z d_Law_law_941 h381 (zs_1 hf) (zs_2 (fun z => (.inl (some (.int z)) : zq_R)) hf) ⟨(by show K + 2 ≤ 601024; omega), (by show Q + 12 ≤ 7293034; omega)⟩
                              · replace hf := zs_N c13 hf
                                by_cases c14 : (x3 &&& (15 : Int32)) = 14
                                · replace hf := zs_T c14 hf
                                  refine zq_tabIn (off := 923) Z 962 d_Law_law_39 (by rw [c14]; decide) (by rw [c14]; decide) (by rw [c14]; rfl) (by decide) ?_
                                  refine zq_aload_nQ Z d_Law_law_962 1 rfl ?_
                                  refine zq_aload_n Z d_Law_law_963 0 rfl ?_
                                  refine zq_iload Z d_Law_law_964 4 rfl ?_
                                  refine zq_iconst Z (1 : Int32) d_Law_law_966 (by decide) ?_
                                  refine zq_iadd Z d_Law_law_967 ?_
                                  have hq := Option.bind_eq_some_iff.mp hf
                                  clear hf
                                  obtain ⟨x383, h382, hf⟩ := hq
                                  refine zl_sldR Z hB d_Law_law_968 h382 ?_
                                  refine zq_aload_n Z d_Law_law_969 0 rfl ?_
                                  refine zq_iload Z d_Law_law_970 4 rfl ?_
                                  refine zq_iconst Z (2 : Int32) d_Law_law_972 (by decide) ?_
                                  refine zq_iadd Z d_Law_law_973 ?_
                                  have hq := Option.bind_eq_some_iff.mp hf
                                  clear hf
                                  obtain ⟨x385, h384, hf⟩ := hq
                                  refine zl_sldR Z hB d_Law_law_974 h384 ?_
                                  refine zq_aload_nQ Z d_Law_law_975 3 rfl ?_
                                  have hq := zs_bS hf
                                  clear hf
                                  obtain ⟨S387, x388, h386, hf⟩ := hq
                                  refine zq_contR (zq_stepS Z zq_cf2 (c_Law_next hl h386) d_Law_law_976 m_553 m_554 m_555 m_458 p_Law_next ⟨(Nat.le_of_ble_eq_true rfl), (Nat.le_of_ble_eq_true rfl), (by show K + 2 ≤ 601024; omega), (by show Q + 12 ≤ 7293034; omega)⟩ rfl (Nat.le_of_ble_eq_true rfl)) Z.p ?_
                                  refine zq_istore Z [(5, .int x388), (0, .ref b), (1, va_rf v1), (2, va_rf v2), (3, va_rf v3), (4, .int v4)] d_Law_law_979 (by decide) rfl ?_
                                  refine zq_aload_nQ Z d_Law_law_981 3 rfl ?_
                                  refine zq_aload_n Z d_Law_law_982 1 rfl ?_
                                  refine zq_iload Z d_Law_law_983 5 rfl ?_
                                  refine zq_iconst Z (1 : Int32) d_Law_law_985 (by decide) ?_
                                  refine zq_iadd Z d_Law_law_986 ?_
                                  have hq := Option.bind_eq_some_iff.mp hf
                                  clear hf
                                  obtain ⟨x390, h389, hf⟩ := hq
                                  refine zl_sldR Z hB d_Law_law_987 h389 ?_
                                  refine zq_aload_n Z d_Law_law_988 1 rfl ?_
                                  refine zq_iload Z d_Law_law_989 5 rfl ?_
                                  refine zq_iconst Z (2 : Int32) d_Law_law_991 (by decide) ?_
                                  refine zq_iadd Z d_Law_law_992 ?_
                                  have hq := Option.bind_eq_some_iff.mp hf
                                  clear hf
                                  obtain ⟨x392, h391, hf⟩ := hq
                                  refine zl_sldR Z hB d_Law_law_993 h391 ?_
                                  have hq := Option.bind_eq_some_iff.mp hf
                                  clear hf
                                  obtain ⟨a393, h394, hf⟩ := hq
                                  subst h394
                                  have hq := zs_C hf
                                  clear hf
                                  obtain ⟨h398, hf⟩ := hq
                                  obtain ⟨fs399, e400⟩ := zs_isS h398
                                  have hq := zs_bS hf
                                  clear hf
                                  obtain ⟨S396, x397, h395, hf⟩ := hq
                                  refine zq_contR (zq_stepV Z zq_cf1 (c_Mo_next hl h395) 4 rfl e400 d_Law_law_994 m_556 m_558 m_559 m_557 m_286 p_Mo_next ⟨(Nat.le_of_ble_eq_true rfl), (Nat.le_of_ble_eq_true rfl), (by show K + 2 ≤ 601024; omega), (by show Q + 12 ≤ 7293034; omega)⟩ rfl (Nat.le_of_ble_eq_true rfl)) Z.p ?_
                                  refine zq_istore Z [(6, .int x397), (5, .int x388), (0, .ref b), (1, va_rf v1), (2, .ref a393), (3, va_rf v3), (4, .int v4)] d_Law_law_997 (by decide) rfl ?_
                                  refine zq_aload_n Z d_Law_law_999 4 rfl ?_
                                  have hq := zs_C hf
                                  clear hf
                                  obtain ⟨h404, hf⟩ := hq
                                  obtain ⟨fs405, e406⟩ := zs_isS h404
                                  have hq := zs_bS hf
                                  clear hf
                                  obtain ⟨S402, x403, h401, hf⟩ := hq
                                  refine zq_contR (zq_stepV Z zq_cf1 (c_Mo_thrown hl h401) 4 rfl e406 d_Law_law_1000 m_463 m_465 m_466 m_464 m_286 p_Mo_thrown ⟨(Nat.le_of_ble_eq_true rfl), (Nat.le_of_ble_eq_true rfl), (by show K + 2 ≤ 601024; omega), (by show Q + 12 ≤ 7293034; omega)⟩ rfl (Nat.le_of_ble_eq_true rfl)) Z.p ?_
                                  refine zq_iload Z d_Law_law_1003 1 rfl ?_
                                  refine zq_icmp_eq Z 1010 d_Law_law_1005 (by decide) (fun q => ?_) (fun q => ?_)
                                  · replace hf := zs_T q hf
                                    refine zq_iload Z d_Law_law_1010 1 rfl ?_
                                    refine zq_if_ne Z 1027 d_Law_law_1012 (by decide) (fun q => ?_) (fun q => ?_)
                                    · replace hf := zs_N q hf
                                      refine zq_sub (lo' := [(0, .ref b), (1, va_rf v1), (2, va_rf (some a393)), (3, va_rf v3), (4, .int v4)]) [2, 3, 4, 5, 6] rfl ?_
                                      refine zq_wid (kc' := (K + 2)) (ks' := (Q + 12)) (by show K + 2 ≤ (K + 2); omega) (by show Q + 12 ≤ (Q + 12); omega) ?_
                                      exact r_Law_law_1027 hl Z hB hK hQ hk23 hf
                                    · replace hf := zs_T q hf
                                      refine zq_aload_nQ Z d_Law_law_1015 5 rfl ?_
                                      refine zq_iconst Z (0 : Int32) d_Law_law_1016 (by decide) ?_
                                      have hq := Option.bind_eq_some_iff.mp hf
                                      clear hf
                                      obtain ⟨a407, h408, hf⟩ := hq
                                      subst h408
                                      have hq := Option.bind_eq_some_iff.mp hf
                                      clear hf
                                      obtain ⟨x409, h410, hf⟩ := hq
                                      refine zr_laload Z 0 (fun _ => rfl) d_Law_law_1017 h410 ?_
                                      refine zq_iload Z d_Law_law_1018 0 rfl ?_
                                      refine zq_i2l Z d_Law_law_1020 ?_
                                      refine zq_lcmp Z d_Law_law_1021 ?_
                                      refine zq_if_eq Z 1027 d_Law_law_1022 (by decide) (fun q => ?_) (fun q => ?_)
                                      · replace hf := zs_T q hf
                                        refine zq_sub (lo' := [(0, .ref b), (1, va_rf v1), (2, va_rf (some a393)), (3, va_rf (some a407)), (4, .int v4)]) [2, 3, 4, 5, 6] rfl ?_
                                        refine zq_wid (kc' := (K + 2)) (ks' := (Q + 12)) (by show K + 2 ≤ (K + 2); omega) (by show Q + 12 ≤ (Q + 12); omega) ?_
                                        exact r_Law_law_1027 hl Z hB hK hQ hk23 hf
                                      · replace hf := zs_N q hf
                                        refine zq_iconst Z (0 : Int32) d_Law_law_1025 (by decide) ?_
                                        have hq := zs_C hf
                                        clear hf
                                        obtain ⟨h411, hf⟩ := hq
                                        exact zq_zret Z d_Law_law_1026 h411 (zs_1 hf) (zs_2 (fun z => (.inl (some (.int z)) : zq_R)) hf) ⟨(by show K + 2 ≤ 601024; omega), (by show Q + 12 ≤ 7293034; omega)⟩
                                  · replace hf := zs_N q hf
                                    refine zq_iconst Z (0 : Int32) d_Law_law_1008 (by decide) ?_
                                    have hq := zs_C hf
                                    clear hf
                                    obtain ⟨h412, hf⟩ := hq
                                    exact zq_zret Z d_Law_law_1009 h412 (zs_1 hf) (zs_2 (fun z => (.inl (some (.int z)) : zq_R)) hf) ⟨(by show K + 2 ≤ 601024; omega), (by show Q + 12 ≤ 7293034; omega)⟩
                                · replace hf := zs_N c14 hf
                                  by_cases c15 : (x3 &&& (15 : Int32)) = 15
                                  · replace hf := zs_T c15 hf
                                    refine zq_tabIn (off := 991) Z 1030 d_Law_law_39 (by rw [c15]; decide) (by rw [c15]; decide) (by rw [c15]; rfl) (by decide) ?_
                                    refine zq_aload_nQ Z d_Law_law_1030 1 rfl ?_
                                    refine zq_aload_n Z d_Law_law_1031 0 rfl ?_
                                    refine zq_iload Z d_Law_law_1032 4 rfl ?_
                                    refine zq_iconst Z (1 : Int32) d_Law_law_1034 (by decide) ?_
                                    refine zq_iadd Z d_Law_law_1035 ?_
                                    have hq := Option.bind_eq_some_iff.mp hf
                                    clear hf
                                    obtain ⟨x414, h413, hf⟩ := hq
                                    refine zl_sldR Z hB d_Law_law_1036 h413 ?_
                                    have hq := Option.bind_eq_some_iff.mp hf
                                    clear hf
                                    obtain ⟨a415, h416, hf⟩ := hq
                                    subst h416
                                    have hq := zs_C hf
                                    clear hf
                                    obtain ⟨h420, hf⟩ := hq
                                    obtain ⟨fs421, e422⟩ := zs_isS h420
                                    have hq := zs_bS hf
                                    clear hf
                                    obtain ⟨S418, x419, h417, hf⟩ := hq
                                    refine zq_contR (zq_stepV Z zq_cf1 (c_CT_count hl h417) 3 rfl e422 d_Law_law_1037 m_560 m_562 m_563 m_561 m_108 p_CT_count ⟨(Nat.le_of_ble_eq_true rfl), (Nat.le_of_ble_eq_true rfl), (by show K ≤ 601024; omega), (by show Q ≤ 7293034; omega)⟩ rfl (Nat.le_of_ble_eq_true rfl)) Z.p ?_
                                    refine zq_aload_nQ Z d_Law_law_1040 2 rfl ?_
                                    refine zq_aload_n Z d_Law_law_1041 0 rfl ?_
                                    refine zq_iload Z d_Law_law_1042 4 rfl ?_
                                    refine zq_iconst Z (1 : Int32) d_Law_law_1044 (by decide) ?_
                                    refine zq_iadd Z d_Law_law_1045 ?_
                                    have hq := Option.bind_eq_some_iff.mp hf
                                    clear hf
                                    obtain ⟨x424, h423, hf⟩ := hq
                                    refine zl_sldR Z hB d_Law_law_1046 h423 ?_
                                    have hq := Option.bind_eq_some_iff.mp hf
                                    clear hf
                                    obtain ⟨a425, h426, hf⟩ := hq
                                    subst h426
                                    have hq := zs_C hf
                                    clear hf
                                    obtain ⟨h430, hf⟩ := hq
                                    obtain ⟨fs431, e432⟩ := zs_isS h430
                                    have hq := zs_bS hf
                                    clear hf
                                    obtain ⟨S428, x429, h427, hf⟩ := hq
                                    refine zq_contR (zq_stepV Z zq_cf1 (c_Mo_count hl h427) 4 rfl e432 d_Law_law_1047 m_564 m_566 m_567 m_565 m_286 p_Mo_count ⟨(Nat.le_of_ble_eq_true rfl), (Nat.le_of_ble_eq_true rfl), (by show K ≤ 601024; omega), (by show Q ≤ 7293034; omega)⟩ rfl (Nat.le_of_ble_eq_true rfl)) Z.p ?_
                                    refine zq_icmp_eq Z 1055 d_Law_law_1050 (by decide) (fun q => ?_) (fun q => ?_)
                                    · replace hf := zs_T q hf
                                      refine zq_sub (lo' := [(0, .ref b), (1, va_rf (some a415)), (2, va_rf (some a425)), (3, va_rf v3), (4, .int v4)]) [0, 1, 2, 3, 4] rfl ?_
                                      refine zq_wid (kc' := (K + 8)) (ks' := (Q + 1222)) (by show K ≤ (K + 8); omega) (by show Q ≤ (Q + 1222); omega) ?_
                                      exact r_Law_law_1055 hl Z hB hK hQ hk23 hf
                                    · replace hf := zs_N q hf
                                      refine zq_iconst Z (0 : Int32) d_Law_law_1053 (by decide) ?_
                                      have hq := zs_C hf
                                      clear hf
                                      obtain ⟨h433, hf⟩ := hq
                                      exact zq_zret Z d_Law_law_1054 h433 (zs_1 hf) (zs_2 (fun z => (.inl (some (.int z)) : zq_R)) hf) ⟨(by show K ≤ 601024; omega), (by show Q ≤ 7293034; omega)⟩
                                  · replace hf := zs_N c15 hf
                                    have hsw := zq_swOut (x := (x3 &&& (15 : Int32))) 16 (by decide) (fun k hk => by
                                      have hk : k = 0 ∨ k = 1 ∨ k = 2 ∨ k = 3 ∨ k = 4 ∨ k = 5 ∨ k = 6 ∨ k = 7 ∨ k = 8 ∨ k = 9 ∨ k = 10 ∨ k = 11 ∨ k = 12 ∨ k = 13 ∨ k = 14 ∨ k = 15 := by omega
                                      rcases hk with rfl | rfl | rfl | rfl | rfl | rfl | rfl | rfl | rfl | rfl | rfl | rfl | rfl | rfl | rfl | rfl
                                      · exact c0
                                      · exact c1
                                      · exact c2
                                      · exact c3
                                      · exact c4
                                      · exact c5
                                      · exact c6
                                      · exact c7
                                      · exact c8
                                      · exact c9
                                      · exact c10
                                      · exact c11
                                      · exact c12
                                      · exact c13
                                      · exact c14
                                      · exact c15)
                                    refine zq_tabOut Z 1055 d_Law_law_39 (by omega) (by decide) ?_
                                    refine zq_sub (lo' := [(0, .ref b), (1, va_rf v1), (2, va_rf v2), (3, va_rf v3), (4, .int v4)]) [0, 1, 2, 3, 4] rfl ?_
                                    refine zq_wid (kc' := (K + 8)) (ks' := (Q + 1222)) (by show K ≤ (K + 8); omega) (by show Q ≤ (Q + 1222); omega) ?_
                                    exact r_Law_law_1055 hl Z hB hK hQ hk23 hf
theorem w_Law_law_23 {l : Launch} (hl : l.stackTraces = false) {G : zq_G} {S0 T : zq_S} {v : Int32} {X : zq_X} {b L : Nat} {xs : Nat → Int32} (Z : Z_Law_law l G S0 T v X) (hB : zl_ok (Y_Law_law l G S0 T v) X b L xs) : ∀ (n : Nat) (K Q : Nat), K + n * 8 ≤ 601024 → Q + n * 1222 ≤ 7293034 → ∀ (v1 : Option Nat) (v2 : Option Nat) (v3 : Option Nat) (v4 : Int32) (S : zq_S), g_Law_law_23 xs L  n v1 v2 v3 v4 S = some (T, v) → zq_W (Y_Law_law l G S0 T v) X 23 [(0, .ref b), (1, va_rf v1), (2, va_rf v2), (3, va_rf v3), (4, .int v4)] [] S K Q := by
  intro n
  induction n with
  | zero => intro K Q _ _ v1 v2 v3 v4 S hf; cases hf
  | succ n ih =>
    intro K Q hK hQ v1 v2 v3 v4 S hf
    have hf : f_Law_law_23 xs L (g_Law_law_23 xs L  n) v1 v2 v3 v4 S = some (T, v) := hf
    exact r_Law_law_23 hl Z hB (by omega) (by omega) (ih (K + 8) (Q + 1222) (by omega) (by omega)) hf
set_option maxHeartbeats 4000000 in
set_option maxRecDepth 100000 in
theorem c_Law_law {l : Launch} (hl : l.stackTraces = false) {G : zq_G} {b L : Nat} {xs : Nat → Int32} {S0 T : zq_S} {v : Int32} {X : zq_X} (Z : Z_Law_law l G S0 T v X) (hB : zl_ok (Y_Law_law l G S0 T v) X b L xs) (hf : f_Law_law xs L S0 = some (T, v)) : zq_W (Y_Law_law l G S0 T v) X 0 [(0, .ref b)] [] S0 0 0 := by
  unfold f_Law_law at hf
  refine zq_new Z cd_CT d_Law_law_0 m_568 m_569 m_108 [.null, .null, .null, .null, .int 0, .int 0] (by decide) ⟨(Nat.le_of_ble_eq_true rfl), (Nat.le_of_ble_eq_true rfl)⟩ ?_
  refine zq_dup Z d_Law_law_3 rfl ?_
  have hq := zs_bS hf
  clear hf
  obtain ⟨S6, x7, h5, hf⟩ := hq
  refine zq_contR (zq_stepI Z (c_CT_init hl h5) d_Law_law_4 rfl m_570 m_571 m_572 m_108 p_CT_init ⟨(Nat.le_of_ble_eq_true rfl), (Nat.le_of_ble_eq_true rfl), (Nat.le_of_ble_eq_true rfl), (Nat.le_of_ble_eq_true rfl)⟩ rfl (Nat.le_of_ble_eq_true rfl)) Z.p ?_
  refine zq_astore_n Z rfl [(1, .ref (S0.2.1)), (0, .ref b)] d_Law_law_7 (by decide) rfl ?_
  refine zq_new Z cd_Mo d_Law_law_8 m_573 m_574 m_286 [.int 0, .int 0, .int 0, .int 0, .null, .int 0, .null, .int 0, .null, .int 0, .null, .null, .int 0, .int 0, .null, .null, .null, .int 0, .int 0, .int 0] (by decide) ⟨(Nat.le_of_ble_eq_true rfl), (Nat.le_of_ble_eq_true rfl)⟩ ?_
  refine zq_dup Z d_Law_law_11 rfl ?_
  have hq := zs_bS hf
  clear hf
  obtain ⟨S13, x14, h12, hf⟩ := hq
  refine zq_contR (zq_stepI Z (c_Mo_init hl h12) d_Law_law_12 rfl m_575 m_576 m_577 m_286 p_Mo_init ⟨(Nat.le_of_ble_eq_true rfl), (Nat.le_of_ble_eq_true rfl), (Nat.le_of_ble_eq_true rfl), (Nat.le_of_ble_eq_true rfl)⟩ rfl (Nat.le_of_ble_eq_true rfl)) Z.p ?_
  refine zq_astore_n Z rfl [(2, .ref (S6.2.1)), (1, .ref (S0.2.1)), (0, .ref b)] d_Law_law_15 (by decide) rfl ?_
  refine zq_iconst Z (1 : Int32) d_Law_law_16 (by decide) ?_
  refine zq_newa (N := 1) (atype := .long) (ty := .long) Z rfl 0 (fun _ => rfl) (fun _ _ h => h) d_Law_law_17 m_3 (1, .inr (.inl (fun _ => 0))) (fun _ => rfl) (by decide) (by decide) (by decide) ⟨(Nat.le_of_ble_eq_true rfl), (Nat.le_of_ble_eq_true rfl)⟩ ?_
  refine zq_astore_n Z rfl [(3, .ref (S13.2.1)), (2, .ref (S6.2.1)), (1, .ref (S0.2.1)), (0, .ref b)] d_Law_law_19 (by decide) rfl ?_
  refine zq_iconst Z (0 : Int32) d_Law_law_20 (by decide) ?_
  refine zq_istore Z [(4, .int (0 : Int32)), (3, .ref (S13.2.1)), (2, .ref (S6.2.1)), (1, .ref (S0.2.1)), (0, .ref b)] d_Law_law_21 (by decide) rfl ?_
  refine zq_sub (lo' := [(0, .ref b), (1, va_rf (some (S0.2.1))), (2, va_rf (some (S6.2.1))), (3, va_rf (some (S13.2.1))), (4, .int (0 : Int32))]) [4, 3, 2, 1, 0] rfl ?_
  exact w_Law_law_23 hl Z hB zq_FL 18 15803 (by decide) (by decide) _ _ _ _ _ hf
