"""Writes runs of calls with the reference's answers: python3 runs.py SEED RUNS CALLS > runs.txt"""
import random
import sys

from reference import PRIMES, Reference, product


class Maker:
    def __init__(self, seed):
        self.random = random.Random(seed)
        self.x = None

    def call(self, name, *arguments):
        answer = getattr(self.x, name)(*arguments)
        print(name, *arguments, '=', answer)

    def number(self, low, high):
        """One of low .. high, and now and then one that is not."""
        if self.random.random() < 0.03:
            return self.random.choice([low - 1, high + 1, -1, -2, high + 2, 99, 2 ** 31 - 1, -2 ** 31])
        return self.random.randint(low, high)

    def set_curve(self):
        r, p = self.random, self.x.p
        degree = r.choice([3, 5])
        row = [r.randrange(p) for _ in range(degree)] + [1]
        kind = r.random()
        if kind < 0.3:
            row = [r.randrange(p), r.randrange(p)] + [0] * (degree - 2) + [1]
        elif kind < 0.45:
            row = [1]
            for root in r.sample(range(p), min(degree, p)):
                row = product(row, [-root % p, 1], p)
        elif kind < 0.5:
            row = row[:r.randint(0, degree)] + [0] * r.randint(0, 2)
        elif kind < 0.6 and degree == 3:
            row += [0] * r.randint(0, 2)
        for v in row:
            self.call('push', v)
        self.call('curve')

    def balance(self):
        """Totals near 0, where a width hangs on the class of the amounts and not on the total alone."""
        r = self.random
        for _ in range(r.randint(0, 2)):
            self.call('amount', r.randrange(len(self.x.c.points)), r.randint(-4, 4))
        rest = self.x.amounts[0] - sum(self.x.amounts)
        self.call('amount', 0, max(-30, min(30, rest + r.randint(0, 2))))
        self.call('room', r.choice([0, 2]))

    def choices(self):
        p, c, n = self.x.p, self.x.c, self.number
        last = len(c.points) - 1 if c else 26
        return [
            ('points',), ('point', n(0, last), n(0, 2)), ('count', n(1, 6)), ('countAll',), ('share', n(0, 5)),
            ('classes',), ('places', n(1, 6)), ('push', n(0, p - 1)), ('at', n(0, 5), n(0, last)),
            ('pick', n(0, 5), n(0, c.h - 1 if c else 99)), ('sum', n(0, 5), n(0, 5), n(0, 5)),
            ('times', n(0, 5), n(0, 5), n(-100000, 100000)), ('times', n(0, 5), n(0, 5), n(-20, 20)),
            ('of', n(0, 5), n(0, 1), n(0, 2)), ('which', n(0, 5)), ('order', n(0, 5)), ('log', n(0, 5), n(0, 5)),
            ('group', n(0, 3)), ('amount', n(0, last), n(-4, 4)), ('amount', n(0, last), n(-4, 4)),
            ('amount', 0, n(-30, 30)), ('room', n(0, 2)), ('room', n(0, 2)), ('gaps', n(0, last)),
            ('code', n(0, 30), n(0, 1)), ('read', n(0, 30), n(0, 12), n(1, max(last, 1))),
            ('tell', n(0, max(last - 1, 0)), n(0, p - 1)), ('tell', n(0, 25), n(0, p - 1)),
            ('near', n(0, 8), n(-1, 5)), ('least', n(0, 8)), ('turns', n(-1, 5)), ('turned', n(0, 3), n(0, last)),
            ('cover', n(0, p - 1), n(0, 20)), ('cover', n(0, p - 1), n(0, 20)), ('genus', n(2, 12)),
            ('above', n(2, 12), n(0, p)), ('digest',),
        ]

    def run(self, calls):
        r = self.random
        self.x = Reference()
        print('new')
        if r.random() < 0.85:
            self.call('prime', r.choice(PRIMES))
        for _ in range(calls):
            kind = r.random()
            if kind < 0.008:
                self.call('prime', r.choice(PRIMES + (4, 9, 17, -3)))
            elif kind < 0.04 or self.x.c is None and r.random() < 0.5:
                self.set_curve()
            elif kind < 0.1 and self.x.c:
                self.balance()
            else:
                self.call(*r.choice(self.choices()))
        self.call('digest')


if __name__ == '__main__':
    maker = Maker(int(sys.argv[1]))
    for _ in range(int(sys.argv[2])):
        maker.run(int(sys.argv[3]))
