/-! where the law begins, seen over bounds -/
def zz : Option zI := some (2147483648, 2147483648)
def zo : Option zI := some (2147483649, 2147483649)
def zt : Option zI := some (2147483650, 2147483650)
def zf : Option zI := some (2147483652, 2147483652)
def zn : Option zI := some (2147483647, 2147483647)
def z_k0 : List (aQ (Option zI)) := [[[zz, zz, zz, zz, zz, zz, zz, zz, zz, zz, zz]]]
def z_k1 : List (aQ (Option zI)) := [[[zz, zz]]]
def z_k2 : List (aQ (Option zI)) := [[[zz, zz, zz, zz, zz, zz, zz, zz, zz, zz, zz, zz, zz, zz, zz, zz, zz, zz, zz, zz, zz, zz, zz, zz, zz, zz, zz, zz, zz, zz, zz, zz], [zz, zz, zz, zz, zz, zz, zz, zz, zz, zz, zz, zz, zz, zz, zz, zz, zz, zz, zz, zz, zz, zz, zz, zz, zz, zz, zz, zz, zz, zz, zz, zz], [zz, zz, zz, zz, zz, zz, zz, zz, zz, zz, zz, zz, zz, zz, zz, zz, zz, zz, zz, zz, zz, zz, zz, zz, zz, zz, zz, zz, zz, zz, zz, zz], [zz, zz, zz, zz, zz, zz, zz, zz, zz, zz, zz, zz, zz, zz, zz, zz, zz, zz, zz, zz, zz, zz, zz, zz, zz, zz, zz, zz, zz, zz, zz, zz], [zz, zz, zz, zz, zz, zz, zz, zz, zz, zz, zz, zz, zz, zz, zz, zz, zz, zz, zz, zz, zz, zz, zz, zz, zz, zz, zz, zz, zz, zz, zz, zz], [zz, zz, zz, zz, zz, zz, zz, zz, zz, zz, zz, zz, zz, zz, zz, zz, zz, zz, zz, zz, zz, zz, zz, zz, zz, zz, zz, zz, zz, zz, zz, zz], [zz, zz, zz, zz, zz, zz, zz, zz, zz, zz, zz, zz, zz, zz, zz, zz, zz, zz, zz, zz, zz, zz, zz, zz, zz, zz, zz, zz, zz, zz, zz, zz], [zz, zz, zz, zz, zz, zz, zz, zz, zz, zz, zz, zz, zz, zz, zz, zz, zz, zz, zz, zz, zz, zz, zz, zz, zz, zz, zz, zz, zz, zz, zz, zz], [zz, zz, zz, zz, zz, zz, zz, zz, zz, zz, zz, zz, zz, zz, zz, zz, zz, zz, zz, zz, zz, zz, zz, zz, zz, zz, zz, zz, zz, zz, zz, zz], [zz, zz, zz, zz, zz, zz, zz, zz, zz, zz, zz, zz, zz, zz, zz, zz, zz, zz, zz, zz, zz, zz, zz, zz, zz, zz, zz, zz, zz, zz, zz, zz], [zz, zz, zz, zz, zz, zz, zz, zz, zz, zz, zz, zz, zz, zz, zz, zz, zz, zz, zz, zz, zz, zz, zz, zz, zz, zz, zz, zz, zz, zz, zz, zz], [zz, zz, zz, zz, zz, zz, zz, zz, zz, zz, zz, zz, zz, zz, zz, zz, zz, zz, zz, zz, zz, zz, zz, zz, zz, zz, zz, zz, zz, zz, zz, zz], [zz, zz, zz, zz, zz, zz, zz, zz, zz, zz, zz, zz, zz, zz, zz, zz]]]
def z_k3 : List (aQ (Option zI)) := [[[zz, zz, zz, zn, zn, zn]]]
def z_k4 : List (aQ (Option zI)) := [[[zz, zo, zo, zz, zz, zt, zt, zz, zz, zz, zz]], [[zz, zo, zo, zz, zz, zt, zt, zz, zz, zz, zz]], [[zz, zo, zo, zz, zz, zt, zt, zz, zz, zz, zz]]]
def z_k5 : List (aQ (Option zI)) := [[[zz, zt, zt, zz, zz, zz, zz, zz, zz]], [[zz, zt, zt, zz, zz, zz, zz, zz, zz]], [[zz, zt, zt, zz, zz, zz, zz, zz, zz]]]
def z_k6 : List (aQ (Option zI)) := [[[zz, zo, zz, zz, zz, zz, zz, zz, zo, zz, zz, zz, zz, zz, zz, zz, zz, zz, zz, zz, zz, zz, zz, zz, zz, zz, zz, zz, zz, zz, zz, zz], [zz, zz, zz, zz, zz, zz, zz, zz, zz, zz, zz, zz, zz, zz, zz, zz, zz, zz, zz, zz, zz, zz, zz, zz, zz, zz, zz, zz, zz, zz, zz, zz]], [[zz, zo, zz, zz, zz, zz, zz, zz, zo, zz, zz, zz, zz, zz, zz, zz, zz, zz, zz, zz, zz, zz, zz, zz, zz, zz, zz, zz, zz, zz, zz, zz], [zz, zz, zz, zz, zz, zz, zz, zz, zz, zz, zz, zz, zz, zz, zz, zz, zz, zz, zz, zz, zz, zz, zz, zz, zz, zz, zz, zz, zz, zz, zz, zz]], [[zz, zo, zz, zz, zz, zz, zz, zz, zo, zz, zz, zz, zz, zz, zz, zz, zz, zz, zz, zz, zz, zz, zz, zz, zz, zz, zz, zz, zz, zz, zz, zz], [zz, zz, zz, zz, zz, zz, zz, zz, zz, zz, zz, zz, zz, zz, zz, zz, zz, zz, zz, zz, zz, zz, zz, zz, zz, zz, zz, zz, zz, zz, zz, zz]]]
def z_k7 : List (aQ (Option zI)) := [[[zz, zo, zz, zz, zz, zz, zz, zz]], [[zz, zo, zz, zz, zz, zz, zz, zz]], [[zz, zo, zz, zz, zz, zz, zz, zz]]]
def z_k8 : List (aQ (Option zI)) := [[[zz, zo, zn, zn, zn, zn, zn, zn]], [[zz, zo, zn, zn, zn, zn, zn, zn]], [[zz, zo, zn, zn, zn, zn, zn, zn]]]
def z_k9 : List (aQ (Option zI)) := [[[zo, zo, zz, zz, zz, zz, zz, zz]], [[zo, zo, zz, zz, zz, zz, zz, zz]], [[zo, zo, zz, zz, zz, zz, zz, zz]]]
def z_k10 : List (aQ (Option zI)) := [[[zf, zz, zz, zz, zz, zz, zz, zz]], [[zf, zz, zz, zz, zz, zz, zz, zz]], [[zf, zz, zz, zz, zz, zz, zz, zz]]]
def z_k11 : List (aQ (Option zI)) := [[[zt, zz, zz, zz, zz, zz, zz, zz]], [[zt, zz, zz, zz, zz, zz, zz, zz]], [[zt, zz, zz, zz, zz, zz, zz, zz]]]
def z_k12 : List (aQ (Option zI)) := [[[zz, zz, zz, zz, zz, zz, zz, zz, zz, zz, zz, zz, zz, zz, zz, zz, zz, zz, zz, zz, zz, zz, zz, zz, zz, zz, zz, zz, zz, zz, zz, zz]], [[zz, zz, zz, zz, zz, zz, zz, zz, zz, zz, zz, zz, zz, zz, zz, zz, zz, zz, zz, zz, zz, zz, zz, zz, zz, zz, zz, zz, zz, zz, zz, zz]], [[zz, zz, zz, zz, zz, zz, zz, zz, zz, zz, zz, zz, zz, zz, zz, zz, zz, zz, zz, zz, zz, zz, zz, zz, zz, zz, zz, zz, zz, zz, zz, zz]]]
def z_k13 : List (aQ (Option zI)) := [[[zo, zo, zo, zo, zo, zo, zo, zo]], [[zo, zo, zo, zo, zo, zo, zo, zo]], [[zo, zo, zo, zo, zo, zo, zo, zo]]]
def z_k14 : List (aQ (Option zI)) := [[[zz, zz, zz, zz, zz, zz, zz, zz, zz, zz, zz, zz, zz, zz, zz, zz]], [[zz, zz, zz, zz, zz, zz, zz, zz, zz, zz, zz, zz, zz, zz, zz, zz]], [[zz, zz, zz, zz, zz, zz, zz, zz, zz, zz, zz, zz, zz, zz, zz, zz]]]
def z_k15 : List (aQ (Option zI)) := [[[zz, zz, zz, zz, zz, zz, zz, zz, zz, zz, zz, zz, zz, zz, zz, zz]], [[zz, zz, zz, zz, zz, zz, zz, zz, zz, zz, zz, zz, zz, zz, zz, zz]], [[zz, zz, zz, zz, zz, zz, zz, zz, zz, zz, zz, zz, zz, zz, zz, zz]]]
def z_k16 : List (aQ (Option zI)) := [[[zz, zz]]]
def z_k17 : List (aQ (Option zI)) := [[[zz, zz, zz, zz, zz, zz, zz, zz, zz]]]
def z_k18 : List (aQ (Option zI)) := [[[zz, zz, zz, zz, zz, zz, zz, zz, zz, zz, zz, zz, zz, zz, zz, zz]]]
def z_k19 : List (aQ (Option zI)) := [[[zz, zz, zz, zz, zz, zz, zz, zz, zz, zz, zz, zz, zz, zz, zz, zz]]]
def z_k20 : List (aQ (Option zI)) := [[[zz, zz, zz, zz, zz, zz]]]
def z_k21 : List (aQ (Option zI)) := [[[zz, zz, zz, zz, zz, zz, zz, zz, zz, zz, zz, zz, zz, zz, zz, zz, zz, zz, zz, zz]]]
def z_k22 : List (aQ (Option zI)) := [[[zz, zz, zz, zz, zz, zz, zz, zz, zz, zz, zz, zz, zz, zz, zz, zz, zz, zz, zz, zz]]]
def z_k23 : List (aQ (Option zI)) := [[[zz, zz, zz, zz, zz, zz, zz, zz, zz, zz, zz, zz, zz, zz, zz, zz, zz, zz, zz, zz]]]
def z_k24 : List (aQ (Option zI)) := [[[zz, zz, zz, zz, zz]]]
def z_k25 : List (aQ (Option zI)) := []
def z_k26 : List (aQ (Option zI)) := []
def z_k27 : List (aQ (Option zI)) := []
def z_k28 : List (aQ (Option zI)) := [[[zz, zz, zz, zz, zz, zz, zz, zz, zz, zz, zz]]]
def z_k29 : List (aQ (Option zI)) := [[[zz, zz, zz, zz, zz, zz, zz, zz, zz, zz, zz, zz, zz, zz, zz, zz, zz, zz, zz, zz, zz, zz, zz, zz, zz, zz, zz, zz, zz, zz, zz, zz]]]
def z_k30 : List (aQ (Option zI)) := [[[zz, zz, zz, zz, zz, zz, zz, zz, zz, zz, zz, zz, zz, zz, zz, zz, zz, zz, zz, zz, zz, zz, zz, zz, zz, zz, zz, zz, zz, zz, zz, zz]]]
def z_k31 : List (aQ (Option zI)) := [[[zz, zz, zz, zz, zz, zz, zz, zz, zz, zz, zz, zz, zz, zz, zz, zz, zz, zz, zz, zz, zz, zz, zz, zz, zz, zz, zz, zz, zz, zz, zz, zz]]]
def z_k32 : List (aQ (Option zI)) := [[[zz, zz, zz, zz, zz, zz, zz, zz, zz, zz, zz, zz, zz, zz, zz, zz]]]
def z_k33 : List (aQ (Option zI)) := [[[zz, zz, zz, zz]]]
def z_k34 : List (aQ (Option zI)) := [[[zz, zz, zz, zz, zz, zz, zz, zz, zz, zz, zz, zz, zz, zz, zz, zz, zz, zz, zz, zz, zz, zz, zz, zz, zz, zz, zz, zz, zz, zz, zz, zz]]]
def z_k35 : List (aQ (Option zI)) := []
def z_k36 : List (aQ (Option zI)) := [[[zz, zz, zz, zz, zz, zz, zz, zz, zz, zn, zz, zz, zz, zz, zz, zz, zz, zz, zz, zz, zz, zz, zz, zz]]]
def z_k37 : List (aQ (Option zI)) := [[[zz, zz, zt, zo, zo, zz, zz, zz, zz, zz, zo, zo, zo, zo, zo, zo, zo, zo, zz, zz, zz, zz, zz, zz, zz, zz, zz, zz, zz, zz, zz, zz], [zz, zz, zz, zz, zz, zz, zz, zz, zz, zz, zz, zz, zz, zz, zz, zz, zz, zz, zz, zz, zz, zz, zz, zz, zz, zz, zz, zz, zz, zz, zz, zz], [zz, zz, zz, zz, zz, zz, zz, zz, zz, zz, zz, zz, zz, zz, zz, zz, zz, zz, zz, zz, zz, zz, zz, zz, zz, zz, zz, zz, zz, zz, zz, zz], [zz, zz, zz, zz, zz, zz, zz, zz, zz, zz, zz, zz, zz, zz, zz, zz, zz, zz, zz, zz, zz, zz, zz, zz, zz, zz, zz, zz, zz, zz, zz, zz], [zz, zz, zz, zz, zz, zz, zz, zz, zz, zz, zz, zz, zz, zz, zz, zz, zz, zz, zz, zz, zz, zz, zz, zz, zz, zz, zz, zz, zz, zz, zz, zz], [zz, zz, zz, zz, zz, zz, zz, zz, zz, zz, zz, zz, zz, zz, zz, zz, zz, zz, zz, zz, zz, zz, zz, zz, zz, zz, zz, zz, zz, zz, zz, zz], [zz, zz, zz, zz, zz, zz, zz, zz, zz, zz, zz, zz, zz, zz, zz, zz, zz, zz, zz, zz, zz, zz, zz, zz, zz, zz, zz, zz, zz, zz, zz, zz], [zz, zz, zz, zz, zz, zz, zz, zz, zz, zz, zz, zz, zz, zz, zz, zz, zz, zz, zz, zz, zz, zz, zz, zz, zz, zz, zz, zz, zz, zz, zz, zz], [zz, zz, zz, zz, zz, zz, zz, zz, zz, zz, zz, zz, zz, zz, zz, zz, zz, zz, zz, zz, zz, zz, zz, zz, zz, zz, zz, zz, zz, zz, zz, zz], [zz, zz, zz, zz, zz, zz, zz, zz, zz, zz, zz, zz, zz, zz, zz, zz, zz, zz, zz, zz, zz, zz, zz, zz, zz, zz, zz, zz, zz, zz, zz, zz], [zz, zz, zz, zz, zz, zz, zz, zz, zz, zz, zz, zz, zz, zz, zz, zz, zz, zz, zz, zz, zz, zz, zz, zz, zz, zz, zz, zz, zz, zz, zz, zz], [zz, zz, zz, zz, zz, zz, zz, zz, zz, zz, zz, zz, zz, zz, zz, zz, zz, zz, zz, zz, zz, zz, zz, zz, zz, zz, zz, zz, zz, zz, zz, zz], [zz, zz, zz, zz, zz, zz, zz, zz, zz, zz, zz, zz, zz, zz, zz, zz, zz, zz, zz, zz, zz, zz, zz, zz, zz, zz, zz, zz, zz, zz, zz, zz], [zz, zz, zz, zz, zz, zz, zz, zz, zz, zz, zz, zz, zz, zz, zz, zz, zz, zz, zz, zz, zz, zz, zz, zz, zz, zz, zz, zz, zz, zz, zz, zz], [zz, zz, zz, zz, zz, zz, zz, zz, zz, zz, zz, zz, zz, zz, zz, zz, zz, zz, zz, zz, zz, zz, zz, zz, zz, zz, zz, zz, zz, zz, zz, zz], [zz, zz, zz, zz, zz, zz, zz, zz, zz, zz, zz, zz, zz, zz, zz, zz, zz, zz, zz, zz, zz, zz, zz, zz, zz, zz, zz, zz, zz, zz, zz, zz], [zz, zz, zz, zz, zz, zz, zz, zz, zz, zz, zz, zz, zz, zz, zz, zz, zz, zz, zz, zz, zz, zz, zz, zz, zz, zz, zz, zz, zz, zz, zz, zz], [zz, zz, zz, zz, zz, zz, zz, zz, zz, zz, zz, zz, zz, zz, zz, zz, zz, zz, zz, zz, zz, zz, zz, zz, zz, zz, zz, zz, zz, zz, zz, zz], [zz, zz, zz, zz, zz, zz, zz, zz, zz, zz, zz, zz, zz, zz, zz, zz, zz, zz, zz, zz, zz, zz, zz, zz, zz, zz, zz, zz, zz, zz, zz, zz], [zz, zz, zz, zz, zz, zz, zz, zz, zz, zz, zz, zz, zz, zz, zz, zz, zz, zz, zz, zz, zz, zz, zz, zz, zz, zz, zz, zz, zz, zz, zz, zz], [zz, zz, zz, zz, zz, zz, zz, zz, zz, zz, zz, zz, zz, zz, zz, zz, zz, zz, zz, zz, zz, zz, zz, zz, zz, zz, zz, zz, zz, zz, zz, zz], [zz, zz, zz, zz, zz, zz, zz, zz, zz, zz, zz, zz, zz, zz, zz, zz, zz, zz, zz, zz, zz, zz, zz, zz, zz, zz, zz, zz, zz, zz, zz, zz], [zz, zz, zz, zz, zz, zz, zz, zz, zz, zz, zz, zz, zz, zz, zz, zz, zz, zz, zz, zz, zz, zz, zz, zz, zz, zz, zz, zz, zz, zz, zz, zz], [zz, zz, zz, zz, zz, zz, zz, zz, zz, zz, zz, zz, zz, zz, zz, zz, zz, zz, zz, zz, zz, zz, zz, zz, zz, zz, zz, zz, zz, zz, zz, zz], [zz, zz, zz, zz, zz, zz, zz, zz, zz, zz, zz, zz, zz, zz, zz, zz, zz, zz, zz, zz, zz, zz, zz, zz, zz, zz, zz, zz, zz, zz, zz, zz], [zz, zz, zz, zz, zz, zz, zz, zz, zz, zz, zz, zz, zz, zz, zz, zz, zz, zz, zz, zz, zz, zz, zz, zz, zz, zz, zz, zz, zz, zz, zz, zz], [zz, zz, zz, zz, zz, zz, zz, zz, zz, zz, zz, zz, zz, zz, zz, zz, zz, zz, zz, zz, zz, zz, zz, zz, zz, zz, zz, zz, zz, zz, zz, zz], [zz, zz, zz, zz, zz, zz, zz, zz, zz, zz, zz, zz, zz, zz, zz, zz, zz, zz, zz, zz, zz, zz, zz, zz, zz, zz, zz, zz, zz, zz, zz, zz], [zz, zz, zz, zz, zz, zz, zz, zz, zz, zz, zz, zz, zz, zz, zz, zz, zz, zz, zz, zz, zz, zz, zz, zz, zz, zz, zz, zz, zz, zz, zz, zz], [zz, zz, zz, zz, zz, zz, zz, zz, zz, zz, zz, zz, zz, zz, zz, zz, zz, zz, zz, zz, zz, zz, zz, zz, zz, zz, zz, zz, zz, zz, zz, zz], [zz, zz, zz, zz, zz, zz, zz, zz, zz, zz, zz, zz, zz, zz, zz, zz, zz, zz, zz, zz, zz, zz, zz, zz, zz, zz, zz, zz, zz, zz, zz, zz], [zz, zz, zz, zz, zz, zz, zz, zz, zz, zz, zz, zz, zz, zz, zz, zz, zz, zz]]]
def z_k38 : List (aQ (Option zI)) := [[[zz, zz, zz, zz, zz, zz, zz, zz, zz, zz, zz, zz, zz, zz, zz, zz, zz, zz, zz, zz, zz, zz, zz, zz, zz, zz, zz, zz, zz, zz, zz, zz], [zz, zz, zz, zz, zz, zz, zz, zz, zz, zz, zz, zz, zz, zz, zz, zz, zz, zz, zz, zz, zz, zz, zz, zz, zz, zz, zz, zz, zz, zz, zz, zz], [zz, zz, zz, zz, zz, zz, zz, zz, zz, zz, zz, zz, zz, zz, zz, zz, zz, zz, zz, zz, zz, zz, zz, zz, zz, zz, zz, zz, zz, zz, zz, zz], [zz, zz, zz, zz, zz, zz, zz, zz, zz, zz, zz, zz, zz, zz, zz, zz, zz, zz, zz, zz, zz, zz, zz, zz, zz, zz, zz, zz, zz, zz, zz, zz], [zz, zz, zz, zz, zz, zz, zz, zz, zz, zz, zz, zz, zz, zz, zz, zz, zz, zz, zz, zz, zz, zz, zz, zz, zz, zz, zz, zz, zz, zz, zz, zz], [zz, zz, zz, zz, zz, zz, zz, zz, zz, zz, zz, zz, zz, zz, zz, zz, zz, zz, zz, zz, zz, zz, zz, zz, zz, zz, zz, zz, zz, zz, zz, zz], [zz, zz, zz, zz, zz, zz, zz, zz, zz, zz, zz, zz, zz, zz, zz, zz, zz, zz, zz, zz, zz, zz, zz, zz, zz, zz, zz, zz, zz, zz, zz, zz], [zz, zz, zz, zz, zz, zz, zz, zz, zz, zz, zz, zz, zz, zz, zz, zz, zz, zz, zz, zz, zz, zz, zz, zz, zz, zz, zz, zz, zz, zz, zz, zz], [zz, zz, zz, zz, zz, zz, zz, zz, zz, zz, zz, zz, zz, zz, zz, zz, zz, zz, zz, zz, zz, zz, zz, zz, zz, zz, zz, zz, zz, zz, zz, zz], [zz, zz, zz, zz, zz, zz, zz, zz, zz, zz, zz, zz, zz, zz, zz, zz, zz, zz, zz, zz, zz, zz, zz, zz, zz, zz, zz, zz, zz, zz, zz, zz], [zz, zz, zz, zz, zz, zz, zz, zz, zz, zz, zz, zz, zz, zz, zz, zz, zz, zz, zz, zz, zz, zz, zz, zz, zz, zz, zz, zz, zz, zz, zz, zz], [zz, zz, zz, zz, zz, zz, zz, zz, zz, zz, zz, zz, zz, zz, zz, zz, zz, zz, zz, zz, zz, zz, zz, zz, zz, zz, zz, zz, zz, zz, zz, zz], [zz, zz, zz, zz, zz, zz, zz, zz, zz, zz, zz, zz, zz, zz, zz, zz, zz, zz, zz, zz, zz, zz, zz, zz, zz, zz, zz, zz, zz, zz, zz, zz], [zz, zz, zz, zz, zz, zz, zz, zz, zz, zz, zz, zz, zz, zz, zz, zz, zz, zz, zz, zz, zz, zz, zz, zz, zz, zz, zz, zz, zz, zz, zz, zz], [zz, zz, zz, zz, zz, zz, zz, zz, zz, zz, zz, zz, zz, zz, zz, zz, zz, zz, zz, zz, zz, zz, zz, zz, zz, zz, zz, zz, zz, zz, zz, zz], [zz, zz, zz, zz, zz, zz, zz, zz, zz, zz, zz, zz, zz, zz, zz, zz, zz, zz, zz, zz, zz, zz, zz, zz, zz, zz, zz, zz, zz, zz, zz, zz], [zz, zz, zz, zz, zz, zz, zz, zz, zz, zz, zz, zz, zz, zz, zz, zz, zz, zz, zz, zz, zz, zz, zz, zz, zz, zz, zz, zz, zz, zz, zz, zz], [zz, zz, zz, zz, zz, zz, zz, zz, zz, zz, zz, zz, zz, zz, zz, zz, zz, zz, zz, zz, zz, zz, zz, zz, zz, zz, zz, zz, zz, zz, zz, zz], [zz, zz, zz, zz, zz, zz, zz, zz, zz, zz, zz, zz, zz, zz, zz, zz, zz, zz, zz, zz, zz, zz, zz, zz, zz, zz, zz, zz, zz, zz, zz, zz], [zz, zz, zz, zz, zz, zz, zz, zz, zz, zz, zz, zz, zz, zz, zz, zz, zz, zz, zz, zz, zz, zz, zz, zz, zz, zz, zz, zz, zz, zz, zz, zz], [zz, zz, zz, zz, zz, zz, zz, zz, zz, zz, zz, zz, zz, zz, zz, zz, zz, zz, zz, zz, zz, zz, zz, zz, zz, zz, zz, zz, zz, zz, zz, zz], [zz, zz, zz, zz, zz, zz, zz, zz, zz, zz, zz, zz, zz, zz, zz, zz, zz, zz, zz, zz, zz, zz, zz, zz, zz, zz, zz, zz, zz, zz, zz, zz], [zz, zz, zz, zz, zz, zz, zz, zz, zz, zz, zz, zz, zz, zz, zz, zz, zz, zz, zz, zz, zz, zz, zz, zz, zz, zz, zz, zz, zz, zz, zz, zz], [zz, zz, zz, zz, zz, zz, zz, zz, zz, zz, zz, zz, zz, zz, zz, zz, zz, zz, zz, zz, zz, zz, zz, zz, zz, zz, zz, zz, zz, zz, zz, zz], [zz, zz, zz, zz, zz, zz, zz, zz, zz, zz, zz, zz, zz, zz, zz, zz, zz, zz, zz, zz, zz, zz, zz, zz, zz, zz, zz, zz, zz, zz, zz, zz], [zz, zz, zz, zz, zz, zz, zz, zz, zz, zz, zz, zz, zz, zz, zz, zz, zz, zz, zz, zz, zz, zz, zz, zz, zz, zz, zz, zz, zz, zz, zz, zz], [zz, zz, zz, zz, zz, zz, zz, zz, zz, zz, zz, zz, zz, zz, zz, zz, zz, zz, zz, zz, zz, zz, zz, zz, zz, zz, zz, zz, zz, zz, zz, zz], [zz, zz, zz, zz, zz, zz, zz, zz, zz, zz, zz, zz, zz, zz, zz, zz, zz, zz, zz, zz, zz, zz, zz, zz, zz, zz, zz, zz, zz, zz, zz, zz], [zz, zz, zz, zz, zz, zz, zz, zz, zz, zz, zz, zz, zz, zz, zz, zz, zz, zz, zz, zz, zz, zz, zz, zz, zz, zz, zz, zz, zz, zz, zz, zz], [zz, zz, zz, zz, zz, zz, zz, zz, zz, zz, zz, zz, zz, zz, zz, zz, zz, zz, zz, zz, zz, zz, zz, zz, zz, zz, zz, zz, zz, zz, zz, zz], [zz, zz, zz, zz, zz, zz, zz, zz, zz, zz, zz, zz, zz, zz, zz, zz, zz, zz, zz, zz, zz, zz, zz, zz, zz, zz, zz, zz, zz, zz, zz, zz], [zz, zz, zz, zz, zz, zz, zz, zz, zz, zz, zz, zz, zz, zz, zz, zz, zz, zz]]]
def z_k39 : List (aQ (Option zI)) := [[[zz, zz, zz, zz, zz, zz, zz, zz, zz, zz, zz, zz, zz, zz, zz, zz, zz, zz, zz, zz, zz, zz, zz, zz, zz, zz, zz, zz, zz, zz, zz, zz], [zz, zz, zz, zz, zz, zz, zz, zz, zz, zz, zz, zz, zz, zz, zz, zz, zz, zz]]]
def z_k40 : List (aQ (Option zI)) := [[[zz, zz, zz, zz, zz, zz, zz, zz, zz, zz, zz, zz, zz, zz, zz, zz, zz, zz, zz, zz, zz, zz, zz, zz, zz, zz, zz, zz, zz, zz, zz, zz], [zz, zz, zz, zz, zz, zz, zz, zz, zz, zz, zz, zz, zz, zz, zz, zz, zz, zz, zz, zz, zz, zz, zz, zz, zz, zz, zz, zz, zz, zz, zz, zz], [zz, zz, zz, zz, zz, zz, zz, zz, zz, zz, zz, zz, zz, zz, zz, zz, zz, zz, zz, zz, zz, zz, zz, zz, zz, zz, zz, zz, zz, zz, zz, zz], [zz, zz, zz, zz, zz, zz, zz, zz, zz, zz, zz, zz, zz, zz, zz, zz, zz, zz, zz, zz, zz, zz, zz, zz, zz, zz, zz, zz, zz, zz, zz, zz], [zz, zz, zz, zz, zz, zz, zz, zz, zz, zz, zz, zz, zz, zz, zz, zz, zz, zz, zz, zz, zz, zz, zz, zz, zz, zz, zz, zz, zz, zz, zz, zz], [zz, zz, zz, zz, zz, zz, zz, zz, zz, zz, zz, zz, zz, zz, zz, zz, zz, zz, zz, zz, zz, zz, zz, zz, zz, zz, zz, zz, zz, zz, zz, zz], [zz, zz, zz, zz, zz, zz, zz, zz, zz, zz, zz, zz, zz, zz, zz, zz, zz, zz, zz, zz, zz, zz, zz, zz, zz, zz, zz, zz, zz, zz, zz, zz], [zz, zz, zz, zz, zz, zz, zz, zz, zz, zz, zz, zz, zz, zz, zz, zz, zz, zz, zz, zz, zz, zz, zz, zz, zz, zz, zz, zz, zz, zz, zz, zz], [zz, zz, zz, zz, zz, zz, zz, zz, zz, zz, zz, zz, zz, zz, zz, zz, zz, zz, zz, zz, zz, zz, zz, zz, zz, zz, zz, zz, zz, zz, zz, zz], [zz, zz, zz, zz, zz, zz, zz, zz, zz, zz, zz, zz, zz, zz, zz, zz, zz, zz, zz, zz, zz, zz, zz, zz, zz, zz, zz, zz, zz, zz, zz, zz], [zz, zz, zz, zz, zz, zz, zz, zz, zz, zz, zz, zz, zz, zz, zz, zz, zz, zz, zz, zz, zz, zz, zz, zz, zz, zz, zz, zz, zz, zz, zz, zz], [zz, zz, zz, zz, zz, zz, zz, zz, zz, zz, zz, zz, zz, zz, zz, zz, zz, zz, zz, zz, zz, zz, zz, zz, zz, zz, zz, zz, zz, zz, zz, zz], [zz, zz, zz, zz, zz, zz, zz, zz, zz, zz, zz, zz, zz, zz, zz, zz]]]
def z_k41 : List (aQ (Option zI)) := [[[zz, zz, zz, zz, zz, zz, zz, zz, zz, zz, zz, zz, zz, zz, zz, zz, zz, zz, zz, zz, zz, zz, zz, zz, zz, zz, zz, zz, zz, zz, zz, zz], [zz, zz, zz, zz, zz, zz, zz, zz, zz, zz, zz, zz, zz, zz, zz, zz, zz, zz, zz, zz, zz, zz, zz, zz, zz, zz, zz, zz, zz, zz, zz, zz], [zz, zz, zz, zz, zz, zz, zz, zz, zz, zz, zz, zz, zz, zz, zz, zz, zz, zz, zz, zz, zz, zz, zz, zz, zz, zz, zz, zz, zz, zz, zz, zz], [zz, zz, zz, zz, zz, zz, zz, zz, zz, zz, zz, zz, zz]]]
def z_k42 : List (aQ (Option zI)) := [[[zz, zz, zz, zz, zz, zz, zz, zz, zz, zz, zz, zz, zz, zz, zz, zz, zz, zz, zz, zz, zz, zz, zz, zz, zz, zz, zz, zz, zz, zz, zz, zz], [zz, zz, zz, zz, zz, zz, zz, zz, zz, zz, zz, zz, zz, zz, zz, zz, zz, zz, zz, zz, zz, zz, zz, zz, zz, zz, zz, zz, zz, zz, zz, zz], [zz, zz, zz, zz, zz, zz, zz, zz, zz, zz, zz, zz, zz, zz, zz, zz, zz, zz, zz, zz, zz, zz, zz, zz, zz, zz, zz, zz, zz, zz, zz, zz], [zz, zz, zz, zz, zz, zz, zz, zz, zz, zz, zz, zz, zz]]]
def z_k43 : List (aQ (Option zI)) := []
def z_k44 : List (aQ (Option zI)) := []
def z_k45 : List (aQ (Option zI)) := [[[zz, zz, zz, zz, zz, zz, zz, zz, zz, zz, zz, zz, zz, zz, zz, zz]]]
def z_k46 : List (aQ (Option zI)) := [[[zz, zz, zz, zz, zz, zz, zz, zz, zz, zz, zz, zz, zz, zz, zz, zz, zz, zz, zz, zz, zz, zz, zz, zz]]]
def z_k : zH (Option zI) := [[z_k0, z_k1, z_k2, z_k3, z_k4, z_k5, z_k6, z_k7], [z_k8, z_k9, z_k10, z_k11, z_k12, z_k13, z_k14, z_k15], [z_k16, z_k17, z_k18, z_k19, z_k20, z_k21, z_k22, z_k23], [z_k24, z_k25, z_k26, z_k27, z_k28, z_k29, z_k30, z_k31], [z_k32, z_k33, z_k34, z_k35, z_k36, z_k37, z_k38, z_k39], [z_k40, z_k41, z_k42, z_k43, z_k44, z_k45, z_k46]]
def z_g1 (l : List (Option zI)) : zG := ([[z_k0, z_k1, z_k2, z_k3, z_k4, z_k5, z_k6, z_k7], [z_k8, z_k9, z_k10, z_k11, z_k12, z_k13, z_k14, z_k15], [z_k16, z_k17, z_k18, z_k19, z_k20, z_k21, z_k22, z_k23], [z_k24, z_k25, z_k26, z_k27, z_k28, z_k29, z_k30, z_k31], [z_k32, z_k33, z_k34, z_k35, z_k36, z_k37, z_k38, z_k39], [z_k40, z_k41, z_k42, z_k43, z_k44, z_k45, z_k46], [], [], [], [], [], [], [[], [], [], [[l]]]], [])
def z_zip {α β : Type} (p : α → β → Bool) (d : β) : List α → List β → Bool
  | [], _ => true
  | a :: r, l => p a (l.headD d) && z_zip p d r l.tail
theorem z_zip_at {α β : Type} {p : α → β → Bool} {Q : α → β → Prop} {z : α} {d : β} (hp : ∀ a b, p a b = true → Q a b) (hz : ∀ b, Q z b) : ∀ (l : List α) (l' : List β), z_zip p d l l' = true → ∀ j : Nat, Q (a_lg z l j) (a_lg d l' j)
  | [], _, _, j => hz _
  | a :: r, l', h, j => by
    unfold z_zip at h
    rw [Bool.and_eq_true] at h
    cases j with
    | zero =>
      have := hp _ _ h.1
      cases l' <;> exact this
    | succ j =>
      have := z_zip_at hp hz r l'.tail h.2 j
      cases l' with
      | nil => cases j <;> exact this
      | cons b r' => exact this
def z_p1 (o : Option zI) (c : Int32) : Bool := match o with
  | none => true
  | some v => Nat.ble v.1 (z_b c) && Nat.ble (z_b c) v.2
def z_ck3 (q : List (aQ (Option zI))) (q' : List (aQ Int32)) : Bool := z_zip (fun a b => z_zip (fun a b => z_zip z_p1 0 a b) [] a b) [] q q'
theorem z_ck3_ok {q : List (aQ (Option zI))} {q' : List (aQ Int32)} (h : z_ck3 q q' = true) (i j : Nat) : z_cI (a_gt none (a_lg [] q i) j) (a_gt 0 (a_lg [] q' i) j) (a_gt 0 (a_lg [] q' i) j) := by
  have h0 : ∀ (o : Option zI) (c : Int32), z_p1 o c = true → z_cI o c c := fun o c h => by
    cases o with
    | none => rfl
    | some v =>
      unfold z_p1 at h
      rw [Bool.and_eq_true] at h
      exact ⟨z_ble h.1, z_ble h.2⟩
  exact z_zip_at (z := []) (Q := fun a b => ∀ j : Nat, z_cI (a_gt none a j) (a_gt 0 b j) (a_gt 0 b j)) (fun a b hab j => z_zip_at (z := []) (Q := fun a b => ∀ j : Nat, z_cI (a_lg none a j) (a_lg 0 b j) (a_lg 0 b j)) (fun a b hab => z_zip_at (z := none) (Q := fun o c => z_cI o c c) h0 (fun _ => rfl) a b hab) (fun _ _ => rfl) a b hab (j / 32) (j % 32)) (fun _ _ => rfl) q q' h i j
theorem a_lg_app {α : Type} (z : α) : ∀ (l r : List α) (j : Nat), a_lg z (l ++ r) j = if j < l.length then a_lg z l j else a_lg z r (j - l.length)
  | [], r, j => by simp
  | a :: l, r, 0 => by simp [a_lg]
  | a :: l, r, j + 1 => by
    have := a_lg_app z l r j
    simp only [List.cons_append, a_lg, List.length_cons, this]
    by_cases h : j < l.length
    · rw [if_pos h, if_pos (by omega)]
    · rw [if_neg h, if_neg (by omega)]
      congr 1
      omega
theorem z_k_ck : (List.range 47).all (fun k => z_ck3 (a_lg [] (a_lg [] z_k (k / 8)) (k % 8)) (a_lg [] g_0.1 k)) = true := by decide +kernel
theorem z_k_hi : (List.range 104).all (fun k => Nat.blt k 47 || Nat.beq k 99 || (match a_lg [] (a_lg [] (z_g1 []).1 (k / 8)) (k % 8) with
  | [] => true
  | _ => false)) = true := by decide +kernel
theorem a_lg_nil {α : Type} (z : α) (j : Nat) : a_lg z [] j = z := rfl
theorem a_lg_rep {α : Type} (z : α) : ∀ (n j : Nat), a_lg z (List.replicate n z) j = z
  | 0, _ => rfl
  | n + 1, 0 => rfl
  | n + 1, j + 1 => a_lg_rep z n j
theorem z_g1_ok {xs : Nat → Int32} {l : List (Option zI)} (hl : ∀ (j : Nat) (v : zI), a_lg none l j = some v → z_i v (xs j)) : z_M (a_toM (a_B0 xs) g_0) (z_g1 l) (a_toM (a_B0 xs) g_0) := by
  refine ⟨fun k i j => ?_, fun k i j => rfl⟩
  by_cases hk : k < 47
  · have h1 := z_ck3_ok (List.all_eq_true.mp z_k_ck k (List.mem_range.mpr hk)) i j
    have e2 : (a_toM (a_B0 xs) g_0).1 k i j = a_gh 0 g_0.1 k i j := by
      show (bif Nat.blt k 47 then a_gh 0 g_0.1 k i j else (a_B0 xs).1 k i j) = _
      rw [show Nat.blt k 47 = true from Nat.ble_eq_true_of_le hk]
      rfl
    rw [e2]
    have e3 : a_lg [] (z_g1 l).1 (k / 8) = a_lg [] z_k (k / 8) := by
      have : k / 8 < 6 := by omega
      match k / 8, this with
      | 0, _ => rfl
      | 1, _ => rfl
      | 2, _ => rfl
      | 3, _ => rfl
      | 4, _ => rfl
      | 5, _ => rfl
    show z_cI (a_gt none (a_lg [] (a_lg [] (a_lg [] (z_g1 l).1 (k / 8)) (k % 8)) i) j) _ _
    rw [e3]
    exact h1
  · by_cases hk3 : k = 99
    · subst hk3
      have e2 : (a_toM (a_B0 xs) g_0).1 99 i j = xs j := rfl
      rw [e2]
      show z_cI (a_gt none (a_lg [] [[l]] i) j) (xs j) (xs j)
      cases i with
      | succ i => exact rfl
      | zero =>
        show z_cI (a_lg none (a_lg [] [l] (j / 32)) (j % 32)) (xs j) (xs j)
        by_cases hj : j < 32
        · rw [Nat.div_eq_of_lt hj, Nat.mod_eq_of_lt hj]
          show z_cI (a_lg none l j) (xs j) (xs j)
          cases ho : a_lg none l j with
          | none => rfl
          | some v => exact hl j v ho
        · have : j / 32 = (j / 32 - 1) + 1 := by omega
          rw [this]
          exact rfl
    · have e0 : a_lg [] (a_lg [] (z_g1 l).1 (k / 8)) (k % 8) = [] := by
        by_cases h13 : k < 104
        · have e4 : a_lg [] (a_lg [] (z_g1 l).1 (k / 8)) (k % 8) = a_lg [] (a_lg [] (z_g1 []).1 (k / 8)) (k % 8) := by
            by_cases h12 : k / 8 = 12
            · rw [h12]
              have h8 : k % 8 < 8 := Nat.mod_lt _ (by decide)
              have h3 : k % 8 ≠ 3 := by omega
              match k % 8, h8, h3 with
              | 0, _, _ => rfl
              | 1, _, _ => rfl
              | 2, _, _ => rfl
              | 3, _, h => exact absurd rfl h
              | 4, _, _ => rfl
              | 5, _, _ => rfl
              | 6, _, _ => rfl
              | 7, _, _ => rfl
            · have h8 : k / 8 < 13 := by omega
              congr 1
              match k / 8, h8, h12 with
              | 0, _, _ => rfl
              | 1, _, _ => rfl
              | 2, _, _ => rfl
              | 3, _, _ => rfl
              | 4, _, _ => rfl
              | 5, _, _ => rfl
              | 6, _, _ => rfl
              | 7, _, _ => rfl
              | 8, _, _ => rfl
              | 9, _, _ => rfl
              | 10, _, _ => rfl
              | 11, _, _ => rfl
              | 12, _, h => exact absurd rfl h
          rw [e4]
          have h9 := List.all_eq_true.mp z_k_hi k (List.mem_range.mpr h13)
          rw [show Nat.blt k 47 = false from by
            cases hb : Nat.blt k 47 with
            | false => rfl
            | true => exact absurd (z_blt hb) hk, show Nat.beq k 99 = false from by
            cases hb : Nat.beq k 99 with
            | false => rfl
            | true => exact absurd (Nat.eq_of_beq_eq_true hb) hk3, Bool.false_or, Bool.false_or] at h9
          cases ha : a_lg [] (a_lg [] (z_g1 []).1 (k / 8)) (k % 8) with
          | nil => rfl
          | cons x r => rw [ha] at h9; cases h9
        · have h8 : k / 8 = (k / 8 - 13) + 13 := by omega
          rw [h8]
          rfl
      show z_cI (a_gt none (a_lg [] (a_lg [] (a_lg [] (z_g1 l).1 (k / 8)) (k % 8)) i) j) _ _
      rw [e0]
      exact rfl
def z_cov : Nat → List zI → Bool
  | n, [] => Nat.beq n 4294967296
  | n, v :: r => Nat.beq v.1 n && (Nat.ble n v.2 && z_cov (v.2 + 1) r)
theorem z_cov_ok {x : Int32} : ∀ {n : Nat} {l : List zI}, z_cov n l = true → n ≤ z_b x → ∃ v ∈ l, z_i v x
  | n, [], h, hx => by
    have := Nat.eq_of_beq_eq_true h
    have := z_b_lt x
    omega
  | n, v :: r, h, hx => by
    unfold z_cov at h
    rw [Bool.and_eq_true, Bool.and_eq_true] at h
    have h1 := Nat.eq_of_beq_eq_true h.1
    have h2 := z_ble h.2.1
    by_cases hv : z_b x ≤ v.2
    · exact ⟨v, List.mem_cons_self, by omega, hv⟩
    · obtain ⟨w, hw, hi⟩ := z_cov_ok (x := x) h.2.2 (by omega)
      exact ⟨w, List.mem_cons_of_mem _ hw, hi⟩
def z_L6 : zL := [some (.inr (.inr (99, 0))), some (.inr (.inr (0, 0))), some (.inr (.inr (36, 0))), some (.inr (.inr (98, 0))), some (.inl (2147483648, 2147483648)), none, none, none]
def z_L0 : zL := [some (.inr (.inr (99, 0))), some (.inr (.inr (0, 0))), some (.inr (.inr (36, 0))), some (.inr (.inr (98, 0))), none, none, none, none]
theorem z_L_nil : z_L [] [] := ⟨rfl, fun j v h => by simp at h⟩
theorem z_L_cons {v : zV} {x : aV} {L : zL} {L' : aL} (h : z_v v x) (hL : z_L L L') : z_L (some v :: L) (some x :: L') := ⟨by simp [hL.1], fun j w hj => by
  cases j with
  | zero => simp at hj; subst hj; exact ⟨x, rfl, h⟩
  | succ j => simp only [List.getElem?_cons_succ] at hj ⊢; exact hL.2 j w hj⟩
theorem z_L_no {x : Option aV} {L : zL} {L' : aL} (hL : z_L L L') : z_L (none :: L) (x :: L') := ⟨by simp [hL.1], fun j w hj => by
  cases j with
  | zero => simp at hj
  | succ j => simp only [List.getElem?_cons_succ] at hj ⊢; exact hL.2 j w hj⟩
theorem z_L6_ok : z_L z_L6 [some (vR 99 0), some (vR 0 0), some (vR 36 0), some (vR 98 0), some (vI 0), none, none, none] :=
  z_L_cons ⟨rfl, Or.inr rfl⟩ (z_L_cons ⟨rfl, Or.inr rfl⟩ (z_L_cons ⟨rfl, Or.inr rfl⟩ (z_L_cons ⟨rfl, Or.inr rfl⟩ (z_L_cons (v := .inl (2147483648, 2147483648)) (x := .inl 0) z_i0 (z_L_no (z_L_no (z_L_no z_L_nil)))))))
theorem z_L0_ok : z_L z_L0 [some (vR 99 0), some (vR 0 0), some (vR 36 0), some (vR 98 0), none, none, none, none] :=
  z_L_cons ⟨rfl, Or.inr rfl⟩ (z_L_cons ⟨rfl, Or.inr rfl⟩ (z_L_cons ⟨rfl, Or.inr rfl⟩ (z_L_cons ⟨rfl, Or.inr rfl⟩ (z_L_no (z_L_no (z_L_no (z_L_no z_L_nil)))))))
def z_go (pc : Nat) (l : List (Option zI)) : Bool := z_lpL 60 (some 6) 100000 0 pc z_L6 [] (z_g1 l)
def z_r5 (pc : Nat) (b1 b2 b3 b4 : zI) : Prop := ∃ c : List zI, z_cov 0 c = true ∧ ∀ b ∈ c, z_go pc [none, some b1, some b2, some b3, some b4, some b] = true
def z_r4 (pc : Nat) (b1 b2 b3 : zI) : Prop := ∃ c : List zI, z_cov 0 c = true ∧ ∀ b ∈ c, z_r5 pc b1 b2 b3 b
def z_r3 (pc : Nat) (b1 b2 : zI) : Prop := ∃ c : List zI, z_cov 0 c = true ∧ ∀ b ∈ c, z_r4 pc b1 b2 b
def z_r2 (pc : Nat) (b1 : zI) : Prop := ∃ c : List zI, z_cov 0 c = true ∧ ∀ b ∈ c, z_r3 pc b1 b
def z_r1 (pc : Nat) : Prop := ∃ c : List zI, z_cov 0 c = true ∧ ∀ b ∈ c, z_r2 pc b
theorem z_case {K : Nat → aK} (hK : ∀ n pc L S M, a_wp 60 6 (fun y as M P => aC 6 60 y as M P (fun _ _ => False)) ret k_law (fun _ _ => False) (fun _ _ => False) (K n) pc L S M → K n pc L S M)
    (hW : ∀ n pc L S M, a_wpW 6 60 K n pc L S M → K n pc L S M) (hR : ∀ n pc L M e, a_fnd k_law pc = some e → e.1 = .ireturn → K n pc L [vI 1] M) {xs : Nat → Int32} {pc : Nat} (h : z_r1 pc) : K 0 pc [some (vR 99 0), some (vR 0 0), some (vR 36 0), some (vR 98 0), some (vI 0), none, none, none] [] (a_toM (a_B0 xs) g_0) := by
  obtain ⟨c1, h1, h⟩ := h
  obtain ⟨b1, m1, i1⟩ := z_cov_ok (x := xs 1) h1 (Nat.zero_le _)
  obtain ⟨c2, h2, h⟩ := h b1 m1
  obtain ⟨b2, m2, i2⟩ := z_cov_ok (x := xs 2) h2 (Nat.zero_le _)
  obtain ⟨c3, h3, h⟩ := h b2 m2
  obtain ⟨b3, m3, i3⟩ := z_cov_ok (x := xs 3) h3 (Nat.zero_le _)
  obtain ⟨c4, h4, h⟩ := h b3 m3
  obtain ⟨b4, m4, i4⟩ := z_cov_ok (x := xs 4) h4 (Nat.zero_le _)
  obtain ⟨c5, h5, h⟩ := h b4 m4
  obtain ⟨b5, m5, i5⟩ := z_cov_ok (x := xs 5) h5 (Nat.zero_le _)
  have h9 := h b5 m5
  refine z_law_ok (oS := some 6) (fun n h => (Option.some.inj h).symm) (M0 := a_toM (a_B0 xs) g_0) hK hW hR _ _ _ _ _ _ h9 _ _ _ z_L6_ok trivial (z_g1_ok (fun j v hj => ?_))
  match j, hj with
  | 0, hj => cases hj
  | 1, hj => cases hj; exact i1
  | 2, hj => cases hj; exact i2
  | 3, hj => cases hj; exact i3
  | 4, hj => cases hj; exact i4
  | 5, hj => cases hj; exact i5
  | j + 6, hj => cases hj
def z_few (n : Nat) : Bool := z_lpL 60 (some n) 100000 0 20 z_L0 [] (z_g1 [])
theorem z_few_ok : (List.range 6).all z_few = true := by decide +kernel
