/-! the law: calls -/
theorem dL_law_1782 : decode code 1782 = .ok (.aload_n 1, 1) := by decide +kernel
theorem dL_law_1783 : decode code 1783 = .ok (.aload_n 0, 1) := by decide +kernel
theorem dL_law_1784 : decode code 1784 = .ok (.iload 5, 2) := by decide +kernel
theorem dL_law_1786 : decode code 1786 = .ok (.iconst 1, 1) := by decide +kernel
theorem dL_law_1787 : decode code 1787 = .ok (.iadd, 1) := by decide +kernel
theorem dL_law_1788 : decode code 1788 = .ok (.iaload, 1) := by decide +kernel
theorem dL_law_1789 : decode code 1789 = .ok (.aload 4, 2) := by decide +kernel
theorem dL_law_1791 : decode code 1791 = .ok (.invokestatic 258, 3) := by decide +kernel
theorem dL_law_1794 : decode code 1794 = .ok (.istore 6, 2) := by decide +kernel
theorem dL_law_1796 : decode code 1796 = .ok (.aload_n 2, 1) := by decide +kernel
theorem dL_law_1797 : decode code 1797 = .ok (.aload_n 0, 1) := by decide +kernel
theorem dL_law_1798 : decode code 1798 = .ok (.iload 5, 2) := by decide +kernel
theorem dL_law_1800 : decode code 1800 = .ok (.iconst 1, 1) := by decide +kernel
theorem dL_law_1801 : decode code 1801 = .ok (.iadd, 1) := by decide +kernel
theorem dL_law_1802 : decode code 1802 = .ok (.iaload, 1) := by decide +kernel
theorem dL_law_1803 : decode code 1803 = .ok (.invokevirtual 261, 3) := by decide +kernel
theorem dL_law_1806 : decode code 1806 = .ok (.fstore 7, 2) := by decide +kernel
theorem dL_law_1808 : decode code 1808 = .ok (.aload_n 2, 1) := by decide +kernel
theorem dL_law_1809 : decode code 1809 = .ok (.invokevirtual 154, 3) := by decide +kernel
theorem dL_law_1812 : decode code 1812 = .ok (.iload 6, 2) := by decide +kernel
theorem dL_law_1814 : decode code 1814 = .ok (.if_icmp .eq 5, 3) := by decide +kernel
theorem dL_law_1819 : decode code 1819 = .ok (.iload 6, 2) := by decide +kernel
theorem dL_law_1821 : decode code 1821 = .ok (.ifCond .ne 36, 3) := by decide +kernel
theorem dL_law_1824 : decode code 1824 = .ok (.aload 4, 2) := by decide +kernel
theorem dL_law_1826 : decode code 1826 = .ok (.iconst 0, 1) := by decide +kernel
theorem dL_law_1827 : decode code 1827 = .ok (.daload, 1) := by decide +kernel
theorem dL_law_1828 : decode code 1828 = .ok (.fload 7, 2) := by decide +kernel
theorem dL_law_1830 : decode code 1830 = .ok (.f2d, 1) := by decide +kernel
theorem dL_law_1831 : decode code 1831 = .ok (.dcmp .l, 1) := by decide +kernel
theorem dL_law_1832 : decode code 1832 = .ok (.ifCond .eq 25, 3) := by decide +kernel
theorem dL_law_1857 : decode code 1857 = .ok (.goto 1182, 3) := by decide +kernel
theorem dL_law_1860 : decode code 1860 = .ok (.aload_n 1, 1) := by decide +kernel
theorem dL_law_1861 : decode code 1861 = .ok (.invokevirtual 262, 3) := by decide +kernel
theorem dL_law_1864 : decode code 1864 = .ok (.aload_n 2, 1) := by decide +kernel
theorem dL_law_1865 : decode code 1865 = .ok (.invokevirtual 266, 3) := by decide +kernel
theorem dL_law_1868 : decode code 1868 = .ok (.lcmp, 1) := by decide +kernel
theorem dL_law_1869 : decode code 1869 = .ok (.ifCond .eq 1170, 3) := by decide +kernel
theorem dL_law_1874 : decode code 1874 = .ok (.aload_n 1, 1) := by decide +kernel
theorem dL_law_1875 : decode code 1875 = .ok (.aload_n 0, 1) := by decide +kernel
theorem dL_law_1876 : decode code 1876 = .ok (.iload 5, 2) := by decide +kernel
theorem dL_law_1878 : decode code 1878 = .ok (.iconst 1, 1) := by decide +kernel
theorem dL_law_1879 : decode code 1879 = .ok (.iadd, 1) := by decide +kernel
theorem dL_law_1880 : decode code 1880 = .ok (.iaload, 1) := by decide +kernel
theorem dL_law_1881 : decode code 1881 = .ok (.aload_n 3, 1) := by decide +kernel
theorem dL_law_1882 : decode code 1882 = .ok (.invokestatic 267, 3) := by decide +kernel
theorem dL_law_1885 : decode code 1885 = .ok (.istore 6, 2) := by decide +kernel
theorem dL_law_1887 : decode code 1887 = .ok (.aload_n 2, 1) := by decide +kernel
theorem dL_law_1888 : decode code 1888 = .ok (.aload_n 0, 1) := by decide +kernel
theorem dL_law_1889 : decode code 1889 = .ok (.iload 5, 2) := by decide +kernel
theorem dL_law_1891 : decode code 1891 = .ok (.iconst 1, 1) := by decide +kernel
theorem dL_law_1892 : decode code 1892 = .ok (.iadd, 1) := by decide +kernel
theorem dL_law_1893 : decode code 1893 = .ok (.iaload, 1) := by decide +kernel
theorem dL_law_1894 : decode code 1894 = .ok (.invokevirtual 269, 3) := by decide +kernel
theorem dL_law_1897 : decode code 1897 = .ok (.lstore 7, 2) := by decide +kernel
theorem dL_law_1899 : decode code 1899 = .ok (.aload_n 2, 1) := by decide +kernel
theorem dL_law_1900 : decode code 1900 = .ok (.invokevirtual 154, 3) := by decide +kernel
theorem dL_law_1903 : decode code 1903 = .ok (.iload 6, 2) := by decide +kernel
theorem dL_law_1905 : decode code 1905 = .ok (.if_icmp .eq 5, 3) := by decide +kernel
theorem dL_law_1910 : decode code 1910 = .ok (.iload 6, 2) := by decide +kernel
theorem dL_law_1912 : decode code 1912 = .ok (.ifCond .ne 14, 3) := by decide +kernel
theorem dL_law_1915 : decode code 1915 = .ok (.aload_n 3, 1) := by decide +kernel
theorem dL_law_1916 : decode code 1916 = .ok (.iconst 0, 1) := by decide +kernel
theorem dL_law_1917 : decode code 1917 = .ok (.laload, 1) := by decide +kernel
theorem dL_law_1918 : decode code 1918 = .ok (.lload 7, 2) := by decide +kernel
theorem dL_law_1920 : decode code 1920 = .ok (.lcmp, 1) := by decide +kernel
theorem dL_law_1921 : decode code 1921 = .ok (.ifCond .eq 5, 3) := by decide +kernel
theorem dL_law_1926 : decode code 1926 = .ok (.goto 1113, 3) := by decide +kernel
theorem dL_law_1929 : decode code 1929 = .ok (.aload_n 1, 1) := by decide +kernel
theorem dL_law_1930 : decode code 1930 = .ok (.aload_n 0, 1) := by decide +kernel
theorem dL_law_1931 : decode code 1931 = .ok (.iload 5, 2) := by decide +kernel
theorem dL_law_1933 : decode code 1933 = .ok (.iconst 1, 1) := by decide +kernel
theorem dL_law_1934 : decode code 1934 = .ok (.iadd, 1) := by decide +kernel
theorem dL_law_1935 : decode code 1935 = .ok (.iaload, 1) := by decide +kernel
theorem dL_law_1936 : decode code 1936 = .ok (.aload_n 3, 1) := by decide +kernel
theorem dL_law_1937 : decode code 1937 = .ok (.invokestatic 270, 3) := by decide +kernel
theorem dL_law_1940 : decode code 1940 = .ok (.istore 6, 2) := by decide +kernel
theorem dL_law_1942 : decode code 1942 = .ok (.aload_n 2, 1) := by decide +kernel
theorem dL_law_1943 : decode code 1943 = .ok (.aload_n 0, 1) := by decide +kernel
theorem dL_law_1944 : decode code 1944 = .ok (.iload 5, 2) := by decide +kernel
theorem dL_law_1946 : decode code 1946 = .ok (.iconst 1, 1) := by decide +kernel
theorem dL_law_1947 : decode code 1947 = .ok (.iadd, 1) := by decide +kernel
theorem dL_law_1948 : decode code 1948 = .ok (.iaload, 1) := by decide +kernel
theorem dL_law_1949 : decode code 1949 = .ok (.invokevirtual 272, 3) := by decide +kernel
theorem dL_law_1952 : decode code 1952 = .ok (.lstore 7, 2) := by decide +kernel
theorem dL_law_1954 : decode code 1954 = .ok (.aload_n 2, 1) := by decide +kernel
theorem dL_law_1955 : decode code 1955 = .ok (.invokevirtual 154, 3) := by decide +kernel
theorem dL_law_1958 : decode code 1958 = .ok (.iload 6, 2) := by decide +kernel
theorem dL_law_1960 : decode code 1960 = .ok (.if_icmp .eq 5, 3) := by decide +kernel
theorem dL_law_1965 : decode code 1965 = .ok (.iload 6, 2) := by decide +kernel
theorem dL_law_1967 : decode code 1967 = .ok (.ifCond .ne 14, 3) := by decide +kernel
theorem dL_law_1970 : decode code 1970 = .ok (.aload_n 3, 1) := by decide +kernel
theorem dL_law_1971 : decode code 1971 = .ok (.iconst 0, 1) := by decide +kernel
theorem dL_law_1972 : decode code 1972 = .ok (.laload, 1) := by decide +kernel
theorem dL_law_1973 : decode code 1973 = .ok (.lload 7, 2) := by decide +kernel
theorem dL_law_1975 : decode code 1975 = .ok (.lcmp, 1) := by decide +kernel
theorem dL_law_1976 : decode code 1976 = .ok (.ifCond .eq 5, 3) := by decide +kernel
theorem dL_law_1981 : decode code 1981 = .ok (.goto 1058, 3) := by decide +kernel
theorem dL_law_1984 : decode code 1984 = .ok (.aload_n 1, 1) := by decide +kernel
theorem dL_law_1985 : decode code 1985 = .ok (.invokevirtual 273, 3) := by decide +kernel
theorem dL_law_1988 : decode code 1988 = .ok (.f2d, 1) := by decide +kernel
theorem dL_law_1989 : decode code 1989 = .ok (.dstore 6, 2) := by decide +kernel
theorem dL_law_1991 : decode code 1991 = .ok (.aload_n 2, 1) := by decide +kernel
theorem dL_law_1992 : decode code 1992 = .ok (.invokevirtual 277, 3) := by decide +kernel
theorem dL_law_1995 : decode code 1995 = .ok (.f2d, 1) := by decide +kernel
theorem dL_law_1996 : decode code 1996 = .ok (.dstore 8, 2) := by decide +kernel
theorem dL_law_1998 : decode code 1998 = .ok (.dload 6, 2) := by decide +kernel
theorem dL_law_2000 : decode code 2000 = .ok (.dload 8, 2) := by decide +kernel
theorem dL_law_2002 : decode code 2002 = .ok (.dcmp .l, 1) := by decide +kernel
theorem dL_law_2003 : decode code 2003 = .ok (.ifCond .eq 21, 3) := by decide +kernel
theorem dL_law_2024 : decode code 2024 = .ok (.goto 1015, 3) := by decide +kernel
theorem dL_law_2027 : decode code 2027 = .ok (.aload_n 1, 1) := by decide +kernel
theorem dL_law_2028 : decode code 2028 = .ok (.invokevirtual 278, 3) := by decide +kernel
theorem dL_law_2031 : decode code 2031 = .ok (.aload_n 2, 1) := by decide +kernel
theorem dL_law_2032 : decode code 2032 = .ok (.invokevirtual 281, 3) := by decide +kernel
theorem dL_law_2035 : decode code 2035 = .ok (.if_icmp .eq 1004, 3) := by decide +kernel
theorem dL_law_2040 : decode code 2040 = .ok (.aload_n 1, 1) := by decide +kernel
theorem dL_law_2041 : decode code 2041 = .ok (.aload_n 0, 1) := by decide +kernel
theorem dL_law_2042 : decode code 2042 = .ok (.iload 5, 2) := by decide +kernel
theorem dL_law_2044 : decode code 2044 = .ok (.iconst 1, 1) := by decide +kernel
theorem dL_law_2045 : decode code 2045 = .ok (.iadd, 1) := by decide +kernel
theorem dL_law_2046 : decode code 2046 = .ok (.iaload, 1) := by decide +kernel
theorem dL_law_2047 : decode code 2047 = .ok (.aload_n 3, 1) := by decide +kernel
theorem dL_law_2048 : decode code 2048 = .ok (.invokestatic 282, 3) := by decide +kernel
theorem dL_law_2051 : decode code 2051 = .ok (.istore 6, 2) := by decide +kernel
theorem dL_law_2053 : decode code 2053 = .ok (.aload_n 2, 1) := by decide +kernel
theorem dL_law_2054 : decode code 2054 = .ok (.aload_n 0, 1) := by decide +kernel
theorem dL_law_2055 : decode code 2055 = .ok (.iload 5, 2) := by decide +kernel
theorem dL_law_2057 : decode code 2057 = .ok (.iconst 1, 1) := by decide +kernel
theorem dL_law_2058 : decode code 2058 = .ok (.iadd, 1) := by decide +kernel
theorem dL_law_2059 : decode code 2059 = .ok (.iaload, 1) := by decide +kernel
theorem dL_law_2060 : decode code 2060 = .ok (.invokevirtual 284, 3) := by decide +kernel
theorem dL_law_2063 : decode code 2063 = .ok (.istore 7, 2) := by decide +kernel
theorem dL_law_2065 : decode code 2065 = .ok (.aload_n 2, 1) := by decide +kernel
theorem dL_law_2066 : decode code 2066 = .ok (.invokevirtual 154, 3) := by decide +kernel
theorem dL_law_2069 : decode code 2069 = .ok (.iload 6, 2) := by decide +kernel
theorem dL_law_2071 : decode code 2071 = .ok (.if_icmp .eq 5, 3) := by decide +kernel
theorem dL_law_2076 : decode code 2076 = .ok (.iload 6, 2) := by decide +kernel
theorem dL_law_2078 : decode code 2078 = .ok (.ifCond .ne 15, 3) := by decide +kernel
theorem dL_law_2081 : decode code 2081 = .ok (.aload_n 3, 1) := by decide +kernel
theorem dL_law_2082 : decode code 2082 = .ok (.iconst 0, 1) := by decide +kernel
theorem dL_law_2083 : decode code 2083 = .ok (.laload, 1) := by decide +kernel
theorem dL_law_2084 : decode code 2084 = .ok (.iload 7, 2) := by decide +kernel
theorem dL_law_2086 : decode code 2086 = .ok (.i2l, 1) := by decide +kernel
theorem dL_law_2087 : decode code 2087 = .ok (.lcmp, 1) := by decide +kernel
theorem dL_law_2088 : decode code 2088 = .ok (.ifCond .eq 5, 3) := by decide +kernel
theorem dL_law_2093 : decode code 2093 = .ok (.goto 946, 3) := by decide +kernel
theorem dL_law_2096 : decode code 2096 = .ok (.aload_n 1, 1) := by decide +kernel
theorem dL_law_2097 : decode code 2097 = .ok (.aload_n 0, 1) := by decide +kernel
theorem dL_law_2098 : decode code 2098 = .ok (.iload 5, 2) := by decide +kernel
theorem dL_law_2100 : decode code 2100 = .ok (.iconst 1, 1) := by decide +kernel
theorem dL_law_2101 : decode code 2101 = .ok (.iadd, 1) := by decide +kernel
theorem dL_law_2102 : decode code 2102 = .ok (.iaload, 1) := by decide +kernel
theorem dL_law_2103 : decode code 2103 = .ok (.aload_n 3, 1) := by decide +kernel
theorem dL_law_2104 : decode code 2104 = .ok (.invokestatic 285, 3) := by decide +kernel
theorem dL_law_2107 : decode code 2107 = .ok (.istore 6, 2) := by decide +kernel
theorem dL_law_2109 : decode code 2109 = .ok (.aload_n 2, 1) := by decide +kernel
theorem dL_law_2110 : decode code 2110 = .ok (.aload_n 0, 1) := by decide +kernel
theorem dL_law_2111 : decode code 2111 = .ok (.iload 5, 2) := by decide +kernel
theorem dL_law_2113 : decode code 2113 = .ok (.iconst 1, 1) := by decide +kernel
theorem dL_law_2114 : decode code 2114 = .ok (.iadd, 1) := by decide +kernel
theorem dL_law_2115 : decode code 2115 = .ok (.iaload, 1) := by decide +kernel
theorem dL_law_2116 : decode code 2116 = .ok (.invokevirtual 287, 3) := by decide +kernel
theorem dL_law_2119 : decode code 2119 = .ok (.istore 7, 2) := by decide +kernel
theorem dL_law_2121 : decode code 2121 = .ok (.aload_n 2, 1) := by decide +kernel
theorem dL_law_2122 : decode code 2122 = .ok (.invokevirtual 154, 3) := by decide +kernel
theorem dL_law_2125 : decode code 2125 = .ok (.iload 6, 2) := by decide +kernel
theorem dL_law_2127 : decode code 2127 = .ok (.if_icmp .eq 5, 3) := by decide +kernel
theorem dL_law_2132 : decode code 2132 = .ok (.iload 6, 2) := by decide +kernel
theorem dL_law_2134 : decode code 2134 = .ok (.ifCond .ne 15, 3) := by decide +kernel
theorem dL_law_2137 : decode code 2137 = .ok (.aload_n 3, 1) := by decide +kernel
theorem dL_law_2138 : decode code 2138 = .ok (.iconst 0, 1) := by decide +kernel
theorem dL_law_2139 : decode code 2139 = .ok (.laload, 1) := by decide +kernel
theorem dL_law_2140 : decode code 2140 = .ok (.iload 7, 2) := by decide +kernel
theorem dL_law_2142 : decode code 2142 = .ok (.i2l, 1) := by decide +kernel
theorem dL_law_2143 : decode code 2143 = .ok (.lcmp, 1) := by decide +kernel
theorem dL_law_2144 : decode code 2144 = .ok (.ifCond .eq 5, 3) := by decide +kernel
theorem dL_law_2149 : decode code 2149 = .ok (.goto 890, 3) := by decide +kernel
theorem dL_law_2152 : decode code 2152 = .ok (.aload_n 1, 1) := by decide +kernel
theorem dL_law_2153 : decode code 2153 = .ok (.aload_n 0, 1) := by decide +kernel
theorem dL_law_2154 : decode code 2154 = .ok (.iload 5, 2) := by decide +kernel
theorem dL_law_2156 : decode code 2156 = .ok (.iconst 1, 1) := by decide +kernel
theorem dL_law_2157 : decode code 2157 = .ok (.iadd, 1) := by decide +kernel
theorem dL_law_2158 : decode code 2158 = .ok (.iaload, 1) := by decide +kernel
theorem dL_law_2159 : decode code 2159 = .ok (.aload_n 3, 1) := by decide +kernel
theorem dL_law_2160 : decode code 2160 = .ok (.invokestatic 288, 3) := by decide +kernel
theorem dL_law_2163 : decode code 2163 = .ok (.istore 6, 2) := by decide +kernel
theorem dL_law_2165 : decode code 2165 = .ok (.aload_n 2, 1) := by decide +kernel
theorem dL_law_2166 : decode code 2166 = .ok (.aload_n 0, 1) := by decide +kernel
theorem dL_law_2167 : decode code 2167 = .ok (.iload 5, 2) := by decide +kernel
theorem dL_law_2169 : decode code 2169 = .ok (.iconst 1, 1) := by decide +kernel
theorem dL_law_2170 : decode code 2170 = .ok (.iadd, 1) := by decide +kernel
theorem dL_law_2171 : decode code 2171 = .ok (.iaload, 1) := by decide +kernel
theorem dL_law_2172 : decode code 2172 = .ok (.invokevirtual 290, 3) := by decide +kernel
theorem dL_law_2175 : decode code 2175 = .ok (.istore 7, 2) := by decide +kernel
theorem dL_law_2177 : decode code 2177 = .ok (.aload_n 2, 1) := by decide +kernel
theorem dL_law_2178 : decode code 2178 = .ok (.invokevirtual 154, 3) := by decide +kernel
theorem dL_law_2181 : decode code 2181 = .ok (.iload 6, 2) := by decide +kernel
theorem dL_law_2183 : decode code 2183 = .ok (.if_icmp .eq 5, 3) := by decide +kernel
theorem dL_law_2188 : decode code 2188 = .ok (.iload 6, 2) := by decide +kernel
theorem dL_law_2190 : decode code 2190 = .ok (.ifCond .ne 15, 3) := by decide +kernel
theorem dL_law_2193 : decode code 2193 = .ok (.aload_n 3, 1) := by decide +kernel
theorem dL_law_2194 : decode code 2194 = .ok (.iconst 0, 1) := by decide +kernel
theorem dL_law_2195 : decode code 2195 = .ok (.laload, 1) := by decide +kernel
theorem dL_law_2196 : decode code 2196 = .ok (.iload 7, 2) := by decide +kernel
theorem dL_law_2198 : decode code 2198 = .ok (.i2l, 1) := by decide +kernel
theorem dL_law_2199 : decode code 2199 = .ok (.lcmp, 1) := by decide +kernel
theorem dL_law_2200 : decode code 2200 = .ok (.ifCond .eq 5, 3) := by decide +kernel
theorem dL_law_2205 : decode code 2205 = .ok (.goto 834, 3) := by decide +kernel
theorem w_law_31 {l : Launch} {G : GT} {b L : Nat} {xs : Nat → Int32} {x a o v u q i n er : Int} {M B : Row} {T : Int → Bool} {S : Int → Row} {Y : Int → Int} {cs sl : Nat} {H : AH} (C : LC l G b L xs x a o v u q i cs sl) (W0 : LW H x a o v u M B n er T S M B n er T S Y) (h3 : ok3 M q) (hS : ∀ k, 0 ≤ k → k < 2 → T k = true → ok3 (S k) q) : LA l G b x a o v i 1782 vU vU vU vU [] cs sl H := by
  obtain ⟨⟨hG, hT, hN, hNc⟩, hX, hA, hL, hR, fin⟩ := C
  have hR0 := W0.1.1
  refine a_aload_n dL_law_1782 rfl rfl ?_
  refine a_xload_n dL_law_1783 rfl rfl ?_
  refine a_iload dL_law_1784 rfl ?_
  refine a_iconst dL_law_1786 ⟨by decide, by decide⟩ ?_
  refine a_iadd dL_law_1787 (by unfold inI; omega) ?_
  refine a_sld hX dL_law_1788 (by omega) ?_
  refine a_aload dL_law_1789 rfl ?_
  refine a_callSH (d' := 998 + 1) dL_law_1791 lc_258 (as := [vR x, vI (xs (i + 1).toNat).toInt, vR v]) rfl rfl (Nat.le_refl _) (Nat.le_of_ble_eq_true rfl) (nocov rfl) (by omega) (by omega) (CLH.mono (l_costOf (d := 998) hG (kRun_0 hR0.la) (fun r9 H9 q9 => ⟨ans_F q9.1 fnn_cost, by rw [q9.2.1.2.1]; exact W0.2.2.2.2.2.1⟩) (k_costOf hG hR0)) ?_)
  intro r1 H1 q1
  obtain ⟨rfl, W1, hv⟩ := lqx vF_in vF_nt (fun c i => pX_in) hA (Or.inr rfl) W0 (th01 _) q1
  show LA l G b x a o v i 1794 vU vU vU vU [vI _] (cs + 4) (sl + 24) H1
  refine a_istore dL_law_1794 (by decide) rfl ?_
  show LA l G b x a o v i 1796 (vI _) vU vU vU [] (cs + 4) (sl + 24) H1
  refine a_aload_n dL_law_1796 rfl rfl ?_
  refine a_xload_n dL_law_1797 rfl rfl ?_
  refine a_iload dL_law_1798 rfl ?_
  refine a_iconst dL_law_1800 ⟨by decide, by decide⟩ ?_
  refine a_iadd dL_law_1801 (by unfold inI; omega) ?_
  refine a_sld hX dL_law_1802 (by omega) ?_
  refine a_callV (d' := 999) dL_law_1803 lc_261 (as := [vI (xs (i + 1).toNat).toInt]) rfl rfl (kMod_0 W1.2.1.1.1) (Nat.le_refl _) (Nat.le_of_ble_eq_true rfl) (nocov rfl) (by omega) (by omega) (CL.mono (c_costOf W1.2.1.1) ?_)
  rintro r2 H2 ⟨rfl, w2⟩
  obtain ⟨W2, e2, e2v⟩ := W1.pub hA w2
  show LA l G b x a o v i 1806 (vI _) vU vU vU [vF _] (cs + 4) (sl + 24) H2
  refine a_fstore dL_law_1806 (by decide) rfl ?_
  show LA l G b x a o v i 1808 (vI _) (vF _) vU vU [] (cs + 4) (sl + 24) H2
  refine a_aload_n dL_law_1808 rfl rfl ?_
  refine a_callV (d' := 999) dL_law_1809 lc_154 (as := []) rfl rfl (kMod_0 W2.2.1.1.1) (Nat.le_refl _) (Nat.le_of_ble_eq_true rfl) (nocov rfl) (by omega) (by omega) (CL.mono (c_thrown W2.2.1.1.1) ?_)
  rintro r3 H3 ⟨rfl, rfl⟩
  show LA l G b x a o v i 1812 (vI _) (vF _) vU vU [vI _] (cs + 4) (sl + 24) H3
  refine a_iload dL_law_1812 rfl ?_
  refine a_icmp_eq dL_law_1814 (tgt := 1819) rfl (fun _ => ?_) (fun c9 => absurd w2.1 c9)
  refine a_iload dL_law_1819 rfl ?_
  refine a_if_ne dL_law_1821 (tgt := 1857) rfl (fun _ => ?_) (fun c9 => ?_)
  · exact a_goto dL_law_1857 (tgt := 3039) rfl (fin _ _ _ _ _ _ _ ⟨_, _, _, _, _, _, _, W2, h3.up (by omega), fun k k1 k2 t => (hS k k1 k2 t).up (by omega)⟩ (by omega) (by omega))
  · refine a_aload dL_law_1824 rfl ?_
    refine a_iconst dL_law_1826 ⟨by decide, by decide⟩ ?_
    refine b_dald dL_law_1827 (congrArg Prod.fst W2.2.2.2.2.2.1) (congrArg Prod.snd W2.2.2.2.2.2.1) (by omega) ?_
    rw [(e2v 0).trans (hv c9)]
    refine a_fload dL_law_1828 rfl ?_
    refine a_f2d dL_law_1830 (fnn_ok fnn_cost) ?_
    refine a_dcmpE fnn_cost dL_law_1831 ?_
    refine a_if_eq dL_law_1832 (tgt := 1857) rfl (fun _ => ?_) (fun c8 => absurd rfl c8)
    exact a_goto dL_law_1857 (tgt := 3039) rfl (fin _ _ _ _ _ _ _ ⟨_, _, _, _, _, _, _, W2, h3.up (by omega), fun k k1 k2 t => (hS k k1 k2 t).up (by omega)⟩ (by omega) (by omega))
theorem w_law_32 {l : Launch} {G : GT} {b L : Nat} {xs : Nat → Int32} {x a o v u q i n er : Int} {M B : Row} {T : Int → Bool} {S : Int → Row} {Y : Int → Int} {cs sl : Nat} {H : AH} (C : LC l G b L xs x a o v u q i cs sl) (W0 : LW H x a o v u M B n er T S M B n er T S Y) (h3 : ok3 M q) (hS : ∀ k, 0 ≤ k → k < 2 → T k = true → ok3 (S k) q) : LA l G b x a o v i 1860 vU vU vU vU [] cs sl H := by
  obtain ⟨⟨hG, hT, hN, hNc⟩, hX, hA, hL, hR, fin⟩ := C
  have hR0 := W0.1.1
  refine a_aload_n dL_law_1860 rfl rfl ?_
  refine a_callV (d' := 999) dL_law_1861 lc_262 (as := []) rfl rfl (kRun_0 hR0.la) (Nat.le_refl _) (Nat.le_of_ble_eq_true rfl) (nocov rfl) (by omega) (by omega) (CL.mono (k_totalCost hR0) ?_)
  rintro r1 H1 ⟨e1, o1, R1⟩
  rw [ans_0] at e1
  subst e1
  have W1 := W0.cla hA o1 (fun c i => pX_in) R1
  show LA l G b x a o v i 1864 vU vU vU vU [vJ _] cs sl H1
  refine a_aload_n dL_law_1864 rfl rfl ?_
  refine a_callV (d' := 999) dL_law_1865 lc_266 (as := []) rfl rfl (kMod_0 W1.2.1.1.1) (Nat.le_refl _) (Nat.le_of_ble_eq_true rfl) (nocov rfl) (by omega) (by omega) (CL.mono (c_totalCost W1.2.1.1) ?_)
  rintro r2 H2 ⟨rfl, w2⟩
  obtain ⟨W2, e2, e2v⟩ := W1.pub hA w2
  show LA l G b x a o v i 1868 vU vU vU vU [vJ _, vJ _] cs sl H2
  exact a_lcmp_eq dL_law_1868 dL_law_1869 (tgt := 3039) rfl (fun _ => (fin _ _ _ _ _ _ _ ⟨_, _, _, _, _, _, _, W2, h3.up (by omega), fun k k1 k2 t => (hS k k1 k2 t).up (by omega)⟩ (by omega) (by omega))) (fun c8 => absurd rfl c8)
theorem w_law_33 {l : Launch} {G : GT} {b L : Nat} {xs : Nat → Int32} {x a o v u q i n er : Int} {M B : Row} {T : Int → Bool} {S : Int → Row} {Y : Int → Int} {cs sl : Nat} {H : AH} (C : LC l G b L xs x a o v u q i cs sl) (W0 : LW H x a o v u M B n er T S M B n er T S Y) (h3 : ok3 M q) (hS : ∀ k, 0 ≤ k → k < 2 → T k = true → ok3 (S k) q) : LA l G b x a o v i 1874 vU vU vU vU [] cs sl H := by
  obtain ⟨⟨hG, hT, hN, hNc⟩, hX, hA, hL, hR, fin⟩ := C
  have hR0 := W0.1.1
  refine a_aload_n dL_law_1874 rfl rfl ?_
  refine a_xload_n dL_law_1875 rfl rfl ?_
  refine a_iload dL_law_1876 rfl ?_
  refine a_iconst dL_law_1878 ⟨by decide, by decide⟩ ?_
  refine a_iadd dL_law_1879 (by unfold inI; omega) ?_
  refine a_sld hX dL_law_1880 (by omega) ?_
  refine a_aload_n dL_law_1881 rfl rfl ?_
  refine a_callSH (d' := 998 + 1) dL_law_1882 lc_267 (as := [vR x, vI (xs (i + 1).toNat).toInt, vR o]) rfl rfl (Nat.le_refl _) (Nat.le_of_ble_eq_true rfl) (nocov rfl) (by omega) (by omega) (CLH.mono (l_planCost (d := 998) hG (kRun_0 hR0.la) (fun r9 H9 q9 => ⟨ans_J q9.1, by rw [q9.2.1.2.1]; exact W0.2.2.2.2.1⟩) (k_planCost hG hR0)) ?_)
  intro r1 H1 q1
  obtain ⟨rfl, W1, hv⟩ := lqx vJ_in vJ_nt (fun c i => pX_in) hA (Or.inl rfl) W0 (th01 _) q1
  show LA l G b x a o v i 1885 vU vU vU vU [vI _] (cs + 4) (sl + 24) H1
  refine a_istore dL_law_1885 (by decide) rfl ?_
  show LA l G b x a o v i 1887 (vI _) vU vU vU [] (cs + 4) (sl + 24) H1
  refine a_aload_n dL_law_1887 rfl rfl ?_
  refine a_xload_n dL_law_1888 rfl rfl ?_
  refine a_iload dL_law_1889 rfl ?_
  refine a_iconst dL_law_1891 ⟨by decide, by decide⟩ ?_
  refine a_iadd dL_law_1892 (by unfold inI; omega) ?_
  refine a_sld hX dL_law_1893 (by omega) ?_
  refine a_callV (d' := 999) dL_law_1894 lc_269 (as := [vI (xs (i + 1).toNat).toInt]) rfl rfl (kMod_0 W1.2.1.1.1) (Nat.le_refl _) (Nat.le_of_ble_eq_true rfl) (nocov rfl) (by omega) (by omega) (CL.mono (c_planCost W1.2.1.1) ?_)
  rintro r2 H2 ⟨rfl, w2⟩
  obtain ⟨W2, e2, e2v⟩ := W1.pub hA w2
  show LA l G b x a o v i 1897 (vI _) vU vU vU [vJ _] (cs + 4) (sl + 24) H2
  refine a_lstore dL_law_1897 (by decide) rfl ?_
  show LA l G b x a o v i 1899 (vI _) (vJ _) vU vU [] (cs + 4) (sl + 24) H2
  refine a_aload_n dL_law_1899 rfl rfl ?_
  refine a_callV (d' := 999) dL_law_1900 lc_154 (as := []) rfl rfl (kMod_0 W2.2.1.1.1) (Nat.le_refl _) (Nat.le_of_ble_eq_true rfl) (nocov rfl) (by omega) (by omega) (CL.mono (c_thrown W2.2.1.1.1) ?_)
  rintro r3 H3 ⟨rfl, rfl⟩
  show LA l G b x a o v i 1903 (vI _) (vJ _) vU vU [vI _] (cs + 4) (sl + 24) H3
  refine a_iload dL_law_1903 rfl ?_
  refine a_icmp_eq dL_law_1905 (tgt := 1910) rfl (fun _ => ?_) (fun c9 => absurd w2.1 c9)
  refine a_iload dL_law_1910 rfl ?_
  refine a_if_ne dL_law_1912 (tgt := 1926) rfl (fun _ => ?_) (fun c9 => ?_)
  · exact a_goto dL_law_1926 (tgt := 3039) rfl (fin _ _ _ _ _ _ _ ⟨_, _, _, _, _, _, _, W2, h3.up (by omega), fun k k1 k2 t => (hS k k1 k2 t).up (by omega)⟩ (by omega) (by omega))
  · refine a_aload_n dL_law_1915 rfl rfl ?_
    refine a_iconst dL_law_1916 ⟨by decide, by decide⟩ ?_
    refine b_lald dL_law_1917 (congrArg Prod.fst W2.2.2.2.2.1) (congrArg Prod.snd W2.2.2.2.2.1) (by omega) ?_
    refine a_lload dL_law_1918 rfl ?_
    refine a_lcmp_eq dL_law_1920 dL_law_1921 (tgt := 1926) rfl (fun _ => ?_) (fun c8 => absurd ((e2 0).trans (hv c9)) c8)
    exact a_goto dL_law_1926 (tgt := 3039) rfl (fin _ _ _ _ _ _ _ ⟨_, _, _, _, _, _, _, W2, h3.up (by omega), fun k k1 k2 t => (hS k k1 k2 t).up (by omega)⟩ (by omega) (by omega))
theorem w_law_34 {l : Launch} {G : GT} {b L : Nat} {xs : Nat → Int32} {x a o v u q i n er : Int} {M B : Row} {T : Int → Bool} {S : Int → Row} {Y : Int → Int} {cs sl : Nat} {H : AH} (C : LC l G b L xs x a o v u q i cs sl) (W0 : LW H x a o v u M B n er T S M B n er T S Y) (h3 : ok3 M q) (hS : ∀ k, 0 ≤ k → k < 2 → T k = true → ok3 (S k) q) : LA l G b x a o v i 1929 vU vU vU vU [] cs sl H := by
  obtain ⟨⟨hG, hT, hN, hNc⟩, hX, hA, hL, hR, fin⟩ := C
  have hR0 := W0.1.1
  refine a_aload_n dL_law_1929 rfl rfl ?_
  refine a_xload_n dL_law_1930 rfl rfl ?_
  refine a_iload dL_law_1931 rfl ?_
  refine a_iconst dL_law_1933 ⟨by decide, by decide⟩ ?_
  refine a_iadd dL_law_1934 (by unfold inI; omega) ?_
  refine a_sld hX dL_law_1935 (by omega) ?_
  refine a_aload_n dL_law_1936 rfl rfl ?_
  refine a_callSH (d' := 998 + 1) dL_law_1937 lc_270 (as := [vR x, vI (xs (i + 1).toNat).toInt, vR o]) rfl rfl (Nat.le_refl _) (Nat.le_of_ble_eq_true rfl) (nocov rfl) (by omega) (by omega) (CLH.mono (l_firstComeCost (d := 998) hG (kRun_0 hR0.la) (fun r9 H9 q9 => ⟨ans_J q9.1, by rw [q9.2.1.2.1]; exact W0.2.2.2.2.1⟩) (k_firstComeCost hG hR0)) ?_)
  intro r1 H1 q1
  obtain ⟨rfl, W1, hv⟩ := lqx vJ_in vJ_nt (fun c i => pX_in) hA (Or.inl rfl) W0 (th01 _) q1
  show LA l G b x a o v i 1940 vU vU vU vU [vI _] (cs + 4) (sl + 24) H1
  refine a_istore dL_law_1940 (by decide) rfl ?_
  show LA l G b x a o v i 1942 (vI _) vU vU vU [] (cs + 4) (sl + 24) H1
  refine a_aload_n dL_law_1942 rfl rfl ?_
  refine a_xload_n dL_law_1943 rfl rfl ?_
  refine a_iload dL_law_1944 rfl ?_
  refine a_iconst dL_law_1946 ⟨by decide, by decide⟩ ?_
  refine a_iadd dL_law_1947 (by unfold inI; omega) ?_
  refine a_sld hX dL_law_1948 (by omega) ?_
  refine a_callV (d' := 999) dL_law_1949 lc_272 (as := [vI (xs (i + 1).toNat).toInt]) rfl rfl (kMod_0 W1.2.1.1.1) (Nat.le_refl _) (Nat.le_of_ble_eq_true rfl) (nocov rfl) (by omega) (by omega) (CL.mono (c_firstComeCost W1.2.1.1) ?_)
  rintro r2 H2 ⟨rfl, w2⟩
  obtain ⟨W2, e2, e2v⟩ := W1.pub hA w2
  show LA l G b x a o v i 1952 (vI _) vU vU vU [vJ _] (cs + 4) (sl + 24) H2
  refine a_lstore dL_law_1952 (by decide) rfl ?_
  show LA l G b x a o v i 1954 (vI _) (vJ _) vU vU [] (cs + 4) (sl + 24) H2
  refine a_aload_n dL_law_1954 rfl rfl ?_
  refine a_callV (d' := 999) dL_law_1955 lc_154 (as := []) rfl rfl (kMod_0 W2.2.1.1.1) (Nat.le_refl _) (Nat.le_of_ble_eq_true rfl) (nocov rfl) (by omega) (by omega) (CL.mono (c_thrown W2.2.1.1.1) ?_)
  rintro r3 H3 ⟨rfl, rfl⟩
  show LA l G b x a o v i 1958 (vI _) (vJ _) vU vU [vI _] (cs + 4) (sl + 24) H3
  refine a_iload dL_law_1958 rfl ?_
  refine a_icmp_eq dL_law_1960 (tgt := 1965) rfl (fun _ => ?_) (fun c9 => absurd w2.1 c9)
  refine a_iload dL_law_1965 rfl ?_
  refine a_if_ne dL_law_1967 (tgt := 1981) rfl (fun _ => ?_) (fun c9 => ?_)
  · exact a_goto dL_law_1981 (tgt := 3039) rfl (fin _ _ _ _ _ _ _ ⟨_, _, _, _, _, _, _, W2, h3.up (by omega), fun k k1 k2 t => (hS k k1 k2 t).up (by omega)⟩ (by omega) (by omega))
  · refine a_aload_n dL_law_1970 rfl rfl ?_
    refine a_iconst dL_law_1971 ⟨by decide, by decide⟩ ?_
    refine b_lald dL_law_1972 (congrArg Prod.fst W2.2.2.2.2.1) (congrArg Prod.snd W2.2.2.2.2.1) (by omega) ?_
    refine a_lload dL_law_1973 rfl ?_
    refine a_lcmp_eq dL_law_1975 dL_law_1976 (tgt := 1981) rfl (fun _ => ?_) (fun c8 => absurd ((e2 0).trans (hv c9)) c8)
    exact a_goto dL_law_1981 (tgt := 3039) rfl (fin _ _ _ _ _ _ _ ⟨_, _, _, _, _, _, _, W2, h3.up (by omega), fun k k1 k2 t => (hS k k1 k2 t).up (by omega)⟩ (by omega) (by omega))
theorem w_law_35 {l : Launch} {G : GT} {b L : Nat} {xs : Nat → Int32} {x a o v u q i n er : Int} {M B : Row} {T : Int → Bool} {S : Int → Row} {Y : Int → Int} {cs sl : Nat} {H : AH} (C : LC l G b L xs x a o v u q i cs sl) (W0 : LW H x a o v u M B n er T S M B n er T S Y) (h3 : ok3 M q) (hS : ∀ k, 0 ≤ k → k < 2 → T k = true → ok3 (S k) q) : LA l G b x a o v i 1984 vU vU vU vU [] cs sl H := by
  obtain ⟨⟨hG, hT, hN, hNc⟩, hX, hA, hL, hR, fin⟩ := C
  have hR0 := W0.1.1
  refine a_aload_n dL_law_1984 rfl rfl ?_
  refine a_callV (d' := 999) dL_law_1985 lc_273 (as := []) rfl rfl (kRun_0 hR0.la) (Nat.le_refl _) (Nat.le_of_ble_eq_true rfl) (nocov rfl) (by omega) (by omega) (CL.mono (k_meanDelay hR0) ?_)
  rintro r1 H1 ⟨e1, o1, R1⟩
  rw [ans_0] at e1
  subst e1
  have W1 := W0.cla hA o1 (fun c i => pX_in) R1
  show LA l G b x a o v i 1988 vU vU vU vU [vF _] cs sl H1
  refine a_f2d dL_law_1988 (fnn_ok (fnn_mean hR0.ok)) ?_
  refine a_dstore dL_law_1989 (by decide) rfl ?_
  show LA l G b x a o v i 1991 (vD _) vU vU vU [] cs sl H1
  refine a_aload_n dL_law_1991 rfl rfl ?_
  refine a_callV (d' := 999) dL_law_1992 lc_277 (as := []) rfl rfl (kMod_0 W1.2.1.1.1) (Nat.le_refl _) (Nat.le_of_ble_eq_true rfl) (nocov rfl) (by omega) (by omega) (CL.mono (c_meanDelay W1.2.1.1) ?_)
  rintro r2 H2 ⟨rfl, w2⟩
  obtain ⟨W2, e2, e2v⟩ := W1.pub hA w2
  show LA l G b x a o v i 1995 (vD _) vU vU vU [vF _] cs sl H2
  refine a_f2d dL_law_1995 (fnn_ok (fnn_mean hR0.ok)) ?_
  refine a_dstore dL_law_1996 (by decide) rfl ?_
  show LA l G b x a o v i 1998 (vD _) vU (vD _) vU [] cs sl H2
  refine a_dload dL_law_1998 rfl ?_
  refine a_dload dL_law_2000 rfl ?_
  refine a_dcmpE (fnn_mean hR0.ok) dL_law_2002 ?_
  refine a_if_eq dL_law_2003 (tgt := 2024) rfl (fun _ => ?_) (fun c8 => absurd rfl c8)
  exact a_goto dL_law_2024 (tgt := 3039) rfl (fin _ _ _ _ _ _ _ ⟨_, _, _, _, _, _, _, W2, h3.up (by omega), fun k k1 k2 t => (hS k k1 k2 t).up (by omega)⟩ (by omega) (by omega))
theorem w_law_36 {l : Launch} {G : GT} {b L : Nat} {xs : Nat → Int32} {x a o v u q i n er : Int} {M B : Row} {T : Int → Bool} {S : Int → Row} {Y : Int → Int} {cs sl : Nat} {H : AH} (C : LC l G b L xs x a o v u q i cs sl) (W0 : LW H x a o v u M B n er T S M B n er T S Y) (h3 : ok3 M q) (hS : ∀ k, 0 ≤ k → k < 2 → T k = true → ok3 (S k) q) : LA l G b x a o v i 2027 vU vU vU vU [] cs sl H := by
  obtain ⟨⟨hG, hT, hN, hNc⟩, hX, hA, hL, hR, fin⟩ := C
  have hR0 := W0.1.1
  refine a_aload_n dL_law_2027 rfl rfl ?_
  refine a_callV (d' := 999) dL_law_2028 lc_278 (as := []) rfl rfl (kRun_0 hR0.la) (Nat.le_refl _) (Nat.le_of_ble_eq_true rfl) (nocov rfl) (by omega) (by omega) (CL.mono (k_lateCount hR0) ?_)
  rintro r1 H1 ⟨e1, o1, R1⟩
  rw [ans_0] at e1
  subst e1
  have W1 := W0.cla hA o1 (fun c i => pX_in) R1
  show LA l G b x a o v i 2031 vU vU vU vU [vI _] cs sl H1
  refine a_aload_n dL_law_2031 rfl rfl ?_
  refine a_callV (d' := 999) dL_law_2032 lc_281 (as := []) rfl rfl (kMod_0 W1.2.1.1.1) (Nat.le_refl _) (Nat.le_of_ble_eq_true rfl) (nocov rfl) (by omega) (by omega) (CL.mono (c_lateCount W1.2.1.1) ?_)
  rintro r2 H2 ⟨rfl, w2⟩
  obtain ⟨W2, e2, e2v⟩ := W1.pub hA w2
  show LA l G b x a o v i 2035 vU vU vU vU [vI _, vI _] cs sl H2
  exact a_icmp_eq dL_law_2035 (tgt := 3039) rfl (fun _ => (fin _ _ _ _ _ _ _ ⟨_, _, _, _, _, _, _, W2, h3.up (by omega), fun k k1 k2 t => (hS k k1 k2 t).up (by omega)⟩ (by omega) (by omega))) (fun c8 => absurd rfl c8)
theorem w_law_37 {l : Launch} {G : GT} {b L : Nat} {xs : Nat → Int32} {x a o v u q i n er : Int} {M B : Row} {T : Int → Bool} {S : Int → Row} {Y : Int → Int} {cs sl : Nat} {H : AH} (C : LC l G b L xs x a o v u q i cs sl) (W0 : LW H x a o v u M B n er T S M B n er T S Y) (h3 : ok3 M q) (hS : ∀ k, 0 ≤ k → k < 2 → T k = true → ok3 (S k) q) : LA l G b x a o v i 2040 vU vU vU vU [] cs sl H := by
  obtain ⟨⟨hG, hT, hN, hNc⟩, hX, hA, hL, hR, fin⟩ := C
  have hR0 := W0.1.1
  refine a_aload_n dL_law_2040 rfl rfl ?_
  refine a_xload_n dL_law_2041 rfl rfl ?_
  refine a_iload dL_law_2042 rfl ?_
  refine a_iconst dL_law_2044 ⟨by decide, by decide⟩ ?_
  refine a_iadd dL_law_2045 (by unfold inI; omega) ?_
  refine a_sld hX dL_law_2046 (by omega) ?_
  refine a_aload_n dL_law_2047 rfl rfl ?_
  refine a_callSH (d' := 998 + 1) dL_law_2048 lc_282 (as := [vR x, vI (xs (i + 1).toNat).toInt, vR o]) rfl rfl (Nat.le_refl _) (Nat.le_of_ble_eq_true rfl) (nocov rfl) (by omega) (by omega) (CLH.mono (l_allowedSequences (d := 998) hG (kRun_0 hR0.la) (fun r9 H9 q9 => ⟨ans_I q9.1, by rw [q9.2.1.2.1]; exact W0.2.2.2.2.1⟩) (k_allowedSequences hG hR0)) ?_)
  intro r1 H1 q1
  obtain ⟨rfl, W1, hv⟩ := lqx vI_in vI_nt (fun c i => pX_in) hA (Or.inl rfl) W0 (th01 _) q1
  show LA l G b x a o v i 2051 vU vU vU vU [vI _] (cs + 4) (sl + 24) H1
  refine a_istore dL_law_2051 (by decide) rfl ?_
  show LA l G b x a o v i 2053 (vI _) vU vU vU [] (cs + 4) (sl + 24) H1
  refine a_aload_n dL_law_2053 rfl rfl ?_
  refine a_xload_n dL_law_2054 rfl rfl ?_
  refine a_iload dL_law_2055 rfl ?_
  refine a_iconst dL_law_2057 ⟨by decide, by decide⟩ ?_
  refine a_iadd dL_law_2058 (by unfold inI; omega) ?_
  refine a_sld hX dL_law_2059 (by omega) ?_
  refine a_callV (d' := 999) dL_law_2060 lc_284 (as := [vI (xs (i + 1).toNat).toInt]) rfl rfl (kMod_0 W1.2.1.1.1) (Nat.le_refl _) (Nat.le_of_ble_eq_true rfl) (nocov rfl) (by omega) (by omega) (CL.mono (c_allowedSequences W1.2.1.1) ?_)
  rintro r2 H2 ⟨rfl, w2⟩
  obtain ⟨W2, e2, e2v⟩ := W1.pub hA w2
  show LA l G b x a o v i 2063 (vI _) vU vU vU [vI _] (cs + 4) (sl + 24) H2
  refine a_istore dL_law_2063 (by decide) rfl ?_
  show LA l G b x a o v i 2065 (vI _) (vI _) vU vU [] (cs + 4) (sl + 24) H2
  refine a_aload_n dL_law_2065 rfl rfl ?_
  refine a_callV (d' := 999) dL_law_2066 lc_154 (as := []) rfl rfl (kMod_0 W2.2.1.1.1) (Nat.le_refl _) (Nat.le_of_ble_eq_true rfl) (nocov rfl) (by omega) (by omega) (CL.mono (c_thrown W2.2.1.1.1) ?_)
  rintro r3 H3 ⟨rfl, rfl⟩
  show LA l G b x a o v i 2069 (vI _) (vI _) vU vU [vI _] (cs + 4) (sl + 24) H3
  refine a_iload dL_law_2069 rfl ?_
  refine a_icmp_eq dL_law_2071 (tgt := 2076) rfl (fun _ => ?_) (fun c9 => absurd w2.1 c9)
  refine a_iload dL_law_2076 rfl ?_
  refine a_if_ne dL_law_2078 (tgt := 2093) rfl (fun _ => ?_) (fun c9 => ?_)
  · exact a_goto dL_law_2093 (tgt := 3039) rfl (fin _ _ _ _ _ _ _ ⟨_, _, _, _, _, _, _, W2, h3.up (by omega), fun k k1 k2 t => (hS k k1 k2 t).up (by omega)⟩ (by omega) (by omega))
  · refine a_aload_n dL_law_2081 rfl rfl ?_
    refine a_iconst dL_law_2082 ⟨by decide, by decide⟩ ?_
    refine b_lald dL_law_2083 (congrArg Prod.fst W2.2.2.2.2.1) (congrArg Prod.snd W2.2.2.2.2.1) (by omega) ?_
    refine a_iload dL_law_2084 rfl ?_
    refine a_i2l dL_law_2086 ?_
    refine a_lcmp_eq dL_law_2087 dL_law_2088 (tgt := 2093) rfl (fun _ => ?_) (fun c8 => absurd ((e2 0).trans (hv c9)) c8)
    exact a_goto dL_law_2093 (tgt := 3039) rfl (fin _ _ _ _ _ _ _ ⟨_, _, _, _, _, _, _, W2, h3.up (by omega), fun k k1 k2 t => (hS k k1 k2 t).up (by omega)⟩ (by omega) (by omega))
theorem w_law_38 {l : Launch} {G : GT} {b L : Nat} {xs : Nat → Int32} {x a o v u q i n er : Int} {M B : Row} {T : Int → Bool} {S : Int → Row} {Y : Int → Int} {cs sl : Nat} {H : AH} (C : LC l G b L xs x a o v u q i cs sl) (W0 : LW H x a o v u M B n er T S M B n er T S Y) (h3 : ok3 M q) (hS : ∀ k, 0 ≤ k → k < 2 → T k = true → ok3 (S k) q) : LA l G b x a o v i 2096 vU vU vU vU [] cs sl H := by
  obtain ⟨⟨hG, hT, hN, hNc⟩, hX, hA, hL, hR, fin⟩ := C
  have hR0 := W0.1.1
  refine a_aload_n dL_law_2096 rfl rfl ?_
  refine a_xload_n dL_law_2097 rfl rfl ?_
  refine a_iload dL_law_2098 rfl ?_
  refine a_iconst dL_law_2100 ⟨by decide, by decide⟩ ?_
  refine a_iadd dL_law_2101 (by unfold inI; omega) ?_
  refine a_sld hX dL_law_2102 (by omega) ?_
  refine a_aload_n dL_law_2103 rfl rfl ?_
  refine a_callSH (d' := 998 + 1) dL_law_2104 lc_285 (as := [vR x, vI (xs (i + 1).toNat).toInt, vR o]) rfl rfl (Nat.le_refl _) (Nat.le_of_ble_eq_true rfl) (nocov rfl) (by omega) (by omega) (CLH.mono (l_equalSequences (d := 998) hG (kRun_0 hR0.la) (fun r9 H9 q9 => ⟨ans_I q9.1, by rw [q9.2.1.2.1]; exact W0.2.2.2.2.1⟩) (k_equalSequences hG hR0)) ?_)
  intro r1 H1 q1
  obtain ⟨rfl, W1, hv⟩ := lqx vI_in vI_nt (fun c i => pX_in) hA (Or.inl rfl) W0 (th01 _) q1
  show LA l G b x a o v i 2107 vU vU vU vU [vI _] (cs + 4) (sl + 24) H1
  refine a_istore dL_law_2107 (by decide) rfl ?_
  show LA l G b x a o v i 2109 (vI _) vU vU vU [] (cs + 4) (sl + 24) H1
  refine a_aload_n dL_law_2109 rfl rfl ?_
  refine a_xload_n dL_law_2110 rfl rfl ?_
  refine a_iload dL_law_2111 rfl ?_
  refine a_iconst dL_law_2113 ⟨by decide, by decide⟩ ?_
  refine a_iadd dL_law_2114 (by unfold inI; omega) ?_
  refine a_sld hX dL_law_2115 (by omega) ?_
  refine a_callV (d' := 999) dL_law_2116 lc_287 (as := [vI (xs (i + 1).toNat).toInt]) rfl rfl (kMod_0 W1.2.1.1.1) (Nat.le_refl _) (Nat.le_of_ble_eq_true rfl) (nocov rfl) (by omega) (by omega) (CL.mono (c_equalSequences W1.2.1.1) ?_)
  rintro r2 H2 ⟨rfl, w2⟩
  obtain ⟨W2, e2, e2v⟩ := W1.pub hA w2
  show LA l G b x a o v i 2119 (vI _) vU vU vU [vI _] (cs + 4) (sl + 24) H2
  refine a_istore dL_law_2119 (by decide) rfl ?_
  show LA l G b x a o v i 2121 (vI _) (vI _) vU vU [] (cs + 4) (sl + 24) H2
  refine a_aload_n dL_law_2121 rfl rfl ?_
  refine a_callV (d' := 999) dL_law_2122 lc_154 (as := []) rfl rfl (kMod_0 W2.2.1.1.1) (Nat.le_refl _) (Nat.le_of_ble_eq_true rfl) (nocov rfl) (by omega) (by omega) (CL.mono (c_thrown W2.2.1.1.1) ?_)
  rintro r3 H3 ⟨rfl, rfl⟩
  show LA l G b x a o v i 2125 (vI _) (vI _) vU vU [vI _] (cs + 4) (sl + 24) H3
  refine a_iload dL_law_2125 rfl ?_
  refine a_icmp_eq dL_law_2127 (tgt := 2132) rfl (fun _ => ?_) (fun c9 => absurd w2.1 c9)
  refine a_iload dL_law_2132 rfl ?_
  refine a_if_ne dL_law_2134 (tgt := 2149) rfl (fun _ => ?_) (fun c9 => ?_)
  · exact a_goto dL_law_2149 (tgt := 3039) rfl (fin _ _ _ _ _ _ _ ⟨_, _, _, _, _, _, _, W2, h3.up (by omega), fun k k1 k2 t => (hS k k1 k2 t).up (by omega)⟩ (by omega) (by omega))
  · refine a_aload_n dL_law_2137 rfl rfl ?_
    refine a_iconst dL_law_2138 ⟨by decide, by decide⟩ ?_
    refine b_lald dL_law_2139 (congrArg Prod.fst W2.2.2.2.2.1) (congrArg Prod.snd W2.2.2.2.2.1) (by omega) ?_
    refine a_iload dL_law_2140 rfl ?_
    refine a_i2l dL_law_2142 ?_
    refine a_lcmp_eq dL_law_2143 dL_law_2144 (tgt := 2149) rfl (fun _ => ?_) (fun c8 => absurd ((e2 0).trans (hv c9)) c8)
    exact a_goto dL_law_2149 (tgt := 3039) rfl (fin _ _ _ _ _ _ _ ⟨_, _, _, _, _, _, _, W2, h3.up (by omega), fun k k1 k2 t => (hS k k1 k2 t).up (by omega)⟩ (by omega) (by omega))
theorem w_law_39 {l : Launch} {G : GT} {b L : Nat} {xs : Nat → Int32} {x a o v u q i n er : Int} {M B : Row} {T : Int → Bool} {S : Int → Row} {Y : Int → Int} {cs sl : Nat} {H : AH} (C : LC l G b L xs x a o v u q i cs sl) (W0 : LW H x a o v u M B n er T S M B n er T S Y) (h3 : ok3 M q) (hS : ∀ k, 0 ≤ k → k < 2 → T k = true → ok3 (S k) q) : LA l G b x a o v i 2152 vU vU vU vU [] cs sl H := by
  obtain ⟨⟨hG, hT, hN, hNc⟩, hX, hA, hL, hR, fin⟩ := C
  have hR0 := W0.1.1
  refine a_aload_n dL_law_2152 rfl rfl ?_
  refine a_xload_n dL_law_2153 rfl rfl ?_
  refine a_iload dL_law_2154 rfl ?_
  refine a_iconst dL_law_2156 ⟨by decide, by decide⟩ ?_
  refine a_iadd dL_law_2157 (by unfold inI; omega) ?_
  refine a_sld hX dL_law_2158 (by omega) ?_
  refine a_aload_n dL_law_2159 rfl rfl ?_
  refine a_callSH (d' := 998 + 1) dL_law_2160 lc_288 (as := [vR x, vI (xs (i + 1).toNat).toInt, vR o]) rfl rfl (Nat.le_refl _) (Nat.le_of_ble_eq_true rfl) (nocov rfl) (by omega) (by omega) (CLH.mono (l_slack (d := 998) hG (kRun_0 hR0.la) (fun r9 H9 q9 => ⟨ans_I q9.1, by rw [q9.2.1.2.1]; exact W0.2.2.2.2.1⟩) (k_slack hG hR0)) ?_)
  intro r1 H1 q1
  obtain ⟨rfl, W1, hv⟩ := lqx vI_in vI_nt (fun c i => pX_in) hA (Or.inl rfl) W0 (th01 _) q1
  show LA l G b x a o v i 2163 vU vU vU vU [vI _] (cs + 4) (sl + 24) H1
  refine a_istore dL_law_2163 (by decide) rfl ?_
  show LA l G b x a o v i 2165 (vI _) vU vU vU [] (cs + 4) (sl + 24) H1
  refine a_aload_n dL_law_2165 rfl rfl ?_
  refine a_xload_n dL_law_2166 rfl rfl ?_
  refine a_iload dL_law_2167 rfl ?_
  refine a_iconst dL_law_2169 ⟨by decide, by decide⟩ ?_
  refine a_iadd dL_law_2170 (by unfold inI; omega) ?_
  refine a_sld hX dL_law_2171 (by omega) ?_
  refine a_callV (d' := 999) dL_law_2172 lc_290 (as := [vI (xs (i + 1).toNat).toInt]) rfl rfl (kMod_0 W1.2.1.1.1) (Nat.le_refl _) (Nat.le_of_ble_eq_true rfl) (nocov rfl) (by omega) (by omega) (CL.mono (c_slack W1.2.1.1) ?_)
  rintro r2 H2 ⟨rfl, w2⟩
  obtain ⟨W2, e2, e2v⟩ := W1.pub hA w2
  show LA l G b x a o v i 2175 (vI _) vU vU vU [vI _] (cs + 4) (sl + 24) H2
  refine a_istore dL_law_2175 (by decide) rfl ?_
  show LA l G b x a o v i 2177 (vI _) (vI _) vU vU [] (cs + 4) (sl + 24) H2
  refine a_aload_n dL_law_2177 rfl rfl ?_
  refine a_callV (d' := 999) dL_law_2178 lc_154 (as := []) rfl rfl (kMod_0 W2.2.1.1.1) (Nat.le_refl _) (Nat.le_of_ble_eq_true rfl) (nocov rfl) (by omega) (by omega) (CL.mono (c_thrown W2.2.1.1.1) ?_)
  rintro r3 H3 ⟨rfl, rfl⟩
  show LA l G b x a o v i 2181 (vI _) (vI _) vU vU [vI _] (cs + 4) (sl + 24) H3
  refine a_iload dL_law_2181 rfl ?_
  refine a_icmp_eq dL_law_2183 (tgt := 2188) rfl (fun _ => ?_) (fun c9 => absurd w2.1 c9)
  refine a_iload dL_law_2188 rfl ?_
  refine a_if_ne dL_law_2190 (tgt := 2205) rfl (fun _ => ?_) (fun c9 => ?_)
  · exact a_goto dL_law_2205 (tgt := 3039) rfl (fin _ _ _ _ _ _ _ ⟨_, _, _, _, _, _, _, W2, h3.up (by omega), fun k k1 k2 t => (hS k k1 k2 t).up (by omega)⟩ (by omega) (by omega))
  · refine a_aload_n dL_law_2193 rfl rfl ?_
    refine a_iconst dL_law_2194 ⟨by decide, by decide⟩ ?_
    refine b_lald dL_law_2195 (congrArg Prod.fst W2.2.2.2.2.1) (congrArg Prod.snd W2.2.2.2.2.1) (by omega) ?_
    refine a_iload dL_law_2196 rfl ?_
    refine a_i2l dL_law_2198 ?_
    refine a_lcmp_eq dL_law_2199 dL_law_2200 (tgt := 2205) rfl (fun _ => ?_) (fun c8 => absurd ((e2 0).trans (hv c9)) c8)
    exact a_goto dL_law_2205 (tgt := 3039) rfl (fin _ _ _ _ _ _ _ ⟨_, _, _, _, _, _, _, W2, h3.up (by omega), fun k k1 k2 t => (hS k k1 k2 t).up (by omega)⟩ (by omega) (by omega))
